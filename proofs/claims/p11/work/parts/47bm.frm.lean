/-! ===== what reading leaves as it is: the reference ===== -/
noncomputable def qQ0 (g : rHp) : Int := g 73 0 (g 15 0 44) + 8 * g 15 0 44
/-- g_q is g but for the GOALS from q on, as far as RULES go; PREDICATES only grow -/
noncomputable def fY (q : Int) (g g_q : rHp) : Prop := g_q 15 0 34 ≠ 0 → g_q 15 0 34 = g 15 0 34 ∧ g_q 15 0 44 = g 15 0 44 ∧ (∀ K : Nat, K = 69 ∨ K = 70 ∨ K = 71 ∨ K = 72 ∨ K = 73 ∨ K = 75 ∨ K = 76 → g_q K = g K) ∧ (∀ (K : Nat) (x : Int), K = 77 ∨ K = 78 ∨ K = 79 → x < q → g_q K 0 x = g K 0 x) ∧ (∀ (K : Nat) (x : Int), K = 80 ∨ K = 81 → x < 4 * q → g_q K 0 x = g K 0 x) ∧ g 15 0 14 ≤ g_q 15 0 14 ∧ ∀ p, p < g 15 0 14 → g_q 66 0 p = g 66 0 p
theorem fY_refl {q : Int} {g : rHp} : fY q g g := fun _ => ⟨rfl, rfl, fun _ _ => rfl, fun _ _ _ _ => rfl, fun _ _ _ _ => rfl, Int.le_refl _, fun _ _ => rfl⟩
theorem fY_zero {q : Int} {g : rHp} : fY q g (fun _ _ _ => 0) := fun h => absurd rfl h
theorem fY_tr {q : Int} {a b c : rHp} (h1 : fY q a b) (h2 : fY q b c) : fY q a c := fun h => by
  obtain ⟨b0, b1, b2, b3, b4, b5, b6⟩ := h2 h
  obtain ⟨a0, a1, a2, a3, a4, a5, a6⟩ := h1 (by rw [← b0]; exact h)
  exact ⟨b0.trans a0, b1.trans a1, fun K z => (b2 K z).trans (a2 K z), fun K x z1 z2 => (b3 K x z1 z2).trans (a3 K x z1 z2), fun K x z1 z2 => (b4 K x z1 z2).trans (a4 K x z1 z2), Int.le_trans a5 b5, fun p z => (b6 p (by omega)).trans (a6 p z)⟩
theorem fY_g {a b c : rHp} (h1 : fY (qQ0 a) a b) (h2 : fY (qQ0 b) b c) : fY (qQ0 a) a c := fun h => by
  obtain ⟨a0, a1, a2, a3⟩ := h1 (by rw [← (h2 h).1]; exact h)
  have e : qQ0 b = qQ0 a := by unfold qQ0; rw [a1, a2 73 (by decide)]
  rw [e] at h2
  exact fY_tr h1 h2 h
theorem fY_up {q : Int} {a b : rHp} {K : Nat} {o j v : Int} (h : fY q a b) (hK : K ≠ 15 ∧ K ≠ 66 ∧ K ≠ 69 ∧ K ≠ 70 ∧ K ≠ 71 ∧ K ≠ 72 ∧ K ≠ 73 ∧ K ≠ 75 ∧ K ≠ 76 ∧ K ≠ 77 ∧ K ≠ 78 ∧ K ≠ 79 ∧ K ≠ 80 ∧ K ≠ 81) : fY q a (rUp b K o j v) := by
  unfold fY
  rw [rUp_grp (show 15 ≠ K by omega), rUp_grp (show 66 ≠ K by omega)]
  intro z
  obtain ⟨b0, b1, b2, b3, b4, b5, b6⟩ := h z
  exact ⟨b0, b1, fun k y => by rw [rUp_grp (by omega)]; exact b2 k y, fun k x y1 y2 => by rw [rUp_grp (by omega)]; exact b3 k x y1 y2, fun k x y1 y2 => by rw [rUp_grp (by omega)]; exact b4 k x y1 y2, b5, b6⟩
theorem fY_15 {q : Int} {a b : rHp} {o j v : Int} (h : fY q a b) (hj : j ≠ 14 ∧ j ≠ 34 ∧ j ≠ 44) : fY q a (rUp b 15 o j v) := by
  unfold fY
  rw [rUp_ne (show ¬ ((15 : Nat) = 15 ∧ (0 : Int) = o ∧ (14 : Int) = j) from fun z => hj.1 z.2.2.symm), rUp_ne (show ¬ ((15 : Nat) = 15 ∧ (0 : Int) = o ∧ (34 : Int) = j) from fun z => hj.2.1 z.2.2.symm), rUp_ne (show ¬ ((15 : Nat) = 15 ∧ (0 : Int) = o ∧ (44 : Int) = j) from fun z => hj.2.2 z.2.2.symm), rUp_grp (show 66 ≠ 15 by decide)]
  intro z
  obtain ⟨b0, b1, b2, b3, b4, b5, b6⟩ := h z
  exact ⟨b0, b1, fun k y => by rw [rUp_grp (by omega)]; exact b2 k y, fun k x y1 y2 => by rw [rUp_grp (by omega)]; exact b3 k x y1 y2, fun k x y1 y2 => by rw [rUp_grp (by omega)]; exact b4 k x y1 y2, b5, b6⟩
theorem fY_14 {q : Int} {a b : rHp} {v : Int} (h : fY q a b) (hv : a 15 0 14 ≤ v) : fY q a (rUp b 15 0 14 v) := by
  unfold fY
  rw [rUp_at, rUp_ne (show ¬ ((15 : Nat) = 15 ∧ (0 : Int) = 0 ∧ (34 : Int) = 14) by decide), rUp_ne (show ¬ ((15 : Nat) = 15 ∧ (0 : Int) = 0 ∧ (44 : Int) = 14) by decide), rUp_grp (show 66 ≠ 15 by decide)]
  intro z
  obtain ⟨b0, b1, b2, b3, b4, b5, b6⟩ := h z
  exact ⟨b0, b1, fun k y => by rw [rUp_grp (by omega)]; exact b2 k y, fun k x y1 y2 => by rw [rUp_grp (by omega)]; exact b3 k x y1 y2, fun k x y1 y2 => by rw [rUp_grp (by omega)]; exact b4 k x y1 y2, hv, b6⟩
theorem fY_66 {q : Int} {a b : rHp} {p v : Int} (h : fY q a b) (hp : a 15 0 14 ≤ p) : fY q a (rUp b 66 0 p v) := by
  unfold fY
  rw [rUp_grp (show 15 ≠ 66 by decide)]
  intro z
  obtain ⟨b0, b1, b2, b3, b4, b5, b6⟩ := h z
  exact ⟨b0, b1, fun k y => by rw [rUp_grp (by omega)]; exact b2 k y, fun k x y1 y2 => by rw [rUp_grp (by omega)]; exact b3 k x y1 y2, fun k x y1 y2 => by rw [rUp_grp (by omega)]; exact b4 k x y1 y2, b5, fun y y1 => by rw [rUp_ne (fun w => by have := w.2.2; omega)]; exact b6 y y1⟩
theorem fY_7 {a b : rHp} {K : Nat} {x v : Int} (h : fY (qQ0 a) a b) (hK : K = 77 ∨ K = 78 ∨ K = 79) (hx : a 73 0 (a 15 0 44) + 8 * a 15 0 44 ≤ x) : fY (qQ0 a) a (rUp b K 0 x v) := by
  unfold fY
  rw [rUp_grp (show 15 ≠ K by omega), rUp_grp (show 66 ≠ K by omega)]
  intro z
  obtain ⟨b0, b1, b2, b3, b4, b5, b6⟩ := h z
  refine ⟨b0, b1, fun k y => by rw [rUp_grp (by omega)]; exact b2 k y, fun k y y1 y2 => ?_, fun k x y1 y2 => by rw [rUp_grp (by omega)]; exact b4 k x y1 y2, b5, b6⟩
  rw [rUp_ne (fun w => by have := w.2.2; unfold qQ0 at y2; omega)]
  exact b3 k y y1 y2
theorem fY_8 {a b : rHp} {K : Nat} {x v : Int} (h : fY (qQ0 a) a b) (hK : K = 80 ∨ K = 81) (hx : 4 * a 73 0 (a 15 0 44) + 32 * a 15 0 44 ≤ x) : fY (qQ0 a) a (rUp b K 0 x v) := by
  unfold fY
  rw [rUp_grp (show 15 ≠ K by omega), rUp_grp (show 66 ≠ K by omega)]
  intro z
  obtain ⟨b0, b1, b2, b3, b4, b5, b6⟩ := h z
  refine ⟨b0, b1, fun k y => by rw [rUp_grp (by omega)]; exact b2 k y, fun k x y1 y2 => by rw [rUp_grp (by omega)]; exact b3 k x y1 y2, fun k y y1 y2 => ?_, b5, b6⟩
  rw [rUp_ne (fun w => by have := w.2.2; unfold qQ0 at y2; omega)]
  exact b4 k y y1 y2
theorem fn33_y {x : List Int} {g0 : rHp} {q : Int} : fY q g0 (fn33 x g0).2.2 := by
  have f_g0 : fY q g0 g0 := fY_refl
  show oP (fun h => fY q g0 h) (fn33 x g0)
  unfold fn33
  refine oP_dl ?_
  refine oP_dl ?_
  exact f_g0
theorem fn8_y {x : List Int} {g0 : rHp} {q : Int} : fY q g0 (fn8 x g0).2.2 := by
  have f_g0 : fY q g0 g0 := fY_refl
  show oP (fun h => fY q g0 h) (fn8 x g0)
  unfold fn8
  refine oP_dl ?_
  refine oP_dl ?_
  refine oP_ite (fun hb => ?_) (fun hb => ?_)
  · refine oP_let fun g1 e => ?_
    have f_g1 : fY q g0 g1 := by rw [e]; exact fY_15 f_g0 (by decide)
    clear e
    exact f_g1
  · refine oP_let fun g1 e => ?_
    have f_g1 : fY q g0 g1 := by rw [e]; exact fY_15 f_g0 (by decide)
    clear e
    exact f_g1
theorem fn19_y {x : List Int} {g0 : rHp} {q : Int} : fY q g0 (fn19 x g0).2.2 := by
  have f_g0 : fY q g0 g0 := fY_refl
  show oP (fun h => fY q g0 h) (fn19 x g0)
  unfold fn19
  refine oP_dl ?_
  refine oP_dl ?_
  refine oP_dl ?_
  refine oP_dl ?_
  refine oP_dl ?_
  refine oP_ite (fun hb => ?_) (fun hb => ?_)
  · exact f_g0
  · exact f_g0
theorem fn6_y {x : List Int} {g0 : rHp} {q : Int} : fY q g0 (fn6 x g0).2.2 := by
  have f_g0 : fY q g0 g0 := fY_refl
  show oP (fun h => fY q g0 h) (fn6 x g0)
  unfold fn6
  refine oP_dl ?_
  refine oP_dl ?_
  refine oP_ite (fun hb => ?_) (fun hb => ?_)
  · exact f_g0
  · refine oP_dl ?_
    exact f_g0
theorem fn39_y {x : List Int} {g0 : rHp} {q : Int} : fY q g0 (fn39 x g0).2.2 := by
  have f_g0 : fY q g0 g0 := fY_refl
  refine zGoo_P (I := fun s => fY q g0 s.2.2) fY_zero (fun s hs => ?_) ?_
  · unfold en39
    refine oS_ite (fun hb => ?_) (fun hb => ?_)
    · refine oS_let fun g1 e => ?_
      have f_g1 : fY q g0 g1 := by rw [e]; exact hs
      clear e
      refine oS_dl ?_
      refine oS_dl ?_
      refine oS_dl ?_
      refine oS_dl ?_
      refine oS_dl ?_
      refine oS_ite (fun hb => ?_) (fun hb => ?_)
      · refine oS_let fun g2 e => ?_
        have f_g2 : fY q g0 g2 := by rw [e]; exact fY_14 f_g1 (by omega)
        clear e
        exact f_g2
      · refine oS_dl ?_
        refine oS_let fun g2 e => ?_
        have f_g2 : fY q g0 g2 := by rw [e]; exact fY_up f_g1 (by decide)
        clear e
        exact f_g2
    · exact f_g0
  · unfold dn39
    refine oS_dl ?_
    refine oS_dl ?_
    refine oS_dl ?_
    refine oS_dl ?_
    refine oS_let fun g1 e => ?_
    have f_g1 : fY q g0 g1 := by rw [e]; exact fY_66 f_g0 (Int.le_refl _)
    clear e
    refine oS_let fun g2 e => ?_
    have f_g2 : fY q g0 g2 := by rw [e]; exact fY_up f_g1 (by decide)
    clear e
    exact f_g2
theorem fn21_y {x : List Int} {g0 : rHp} {q : Int} : fY q g0 (fn21 x g0).2.2 := by
  have f_g0 : fY q g0 g0 := fY_refl
  refine zGoo_P (I := fun s => fY q g0 s.2.2) fY_zero (fun s hs => ?_) ?_
  · unfold en21
    refine oS_ite (fun hb => ?_) (fun hb => ?_)
    · refine oS_let fun g1 e => ?_
      have f_g1 : fY q g0 g1 := by rw [e]; exact hs
      clear e
      refine oS_dl ?_
      refine oS_dl ?_
      refine oS_dl ?_
      refine oS_dl ?_
      refine oS_dl ?_
      refine oS_ite (fun hb => ?_) (fun hb => ?_)
      · exact f_g1
      · refine oS_dl ?_
        refine oS_ite (fun hb => ?_) (fun hb => ?_)
        · exact f_g1
        · refine oS_dl ?_
          refine oS_ite (fun hb => ?_) (fun hb => ?_)
          · exact f_g1
          · exact f_g1
    · refine oS_ite (fun hb => ?_) (fun hb => ?_)
      · refine oS_let fun g1 e => ?_
        have f_g1 : fY q g0 g1 := by rw [e]; exact hs
        clear e
        refine oS_dl ?_
        refine oS_dl ?_
        refine oS_dl ?_
        refine oS_dl ?_
        refine oS_dl ?_
        refine oS_dl ?_
        refine oS_ite (fun hb => ?_) (fun hb => ?_)
        · refine oS_ite (fun hb => ?_) (fun hb => ?_)
          · exact f_g1
          · exact f_g1
        · refine oS_ite (fun hb => ?_) (fun hb => ?_)
          · exact f_g1
          · refine oS_dl ?_
            refine oS_dl ?_
            refine oS_ite (fun hb => ?_) (fun hb => ?_)
            · exact f_g1
            · exact f_g1
      · exact f_g0
  · unfold dn21
    refine oS_dl ?_
    refine oS_dl ?_
    refine oS_dl ?_
    exact f_g0
theorem fn25_y {x : List Int} {g0 : rHp} {q : Int} : fY q g0 (fn25 x g0).2.2 := by
  have f_g0 : fY q g0 g0 := fY_refl
  show oP (fun h => fY q g0 h) (fn25 x g0)
  unfold fn25
  refine oP_dl ?_
  refine oP_dl ?_
  refine oP_dl ?_
  refine oP_dl ?_
  refine oP_dl ?_
  refine oP_let fun g1 e => ?_
  have f_g1 : fY q g0 g1 := by rw [e]; exact fY_up f_g0 (by decide)
  clear e
  refine oP_let fun g2 e => ?_
  have f_g2 : fY q g0 g2 := by rw [e]; exact fY_up f_g1 (by decide)
  clear e
  refine oP_let fun g3 e => ?_
  have f_g3 : fY q g0 g3 := by rw [e]; exact fY_up f_g2 (by decide)
  clear e
  refine oP_let fun g4 e => ?_
  have f_g4 : fY q g0 g4 := by rw [e]; exact fY_up f_g3 (by decide)
  clear e
  refine oP_let fun g5 e => ?_
  have f_g5 : fY q g0 g5 := by rw [e]; exact fY_15 f_g4 (by decide)
  clear e
  exact f_g5
theorem fn9_y {x : List Int} {g0 : rHp} {q : Int} : fY q g0 (fn9 x g0).2.2 := by
  have f_g0 : fY q g0 g0 := fY_refl
  show oP (fun h => fY q g0 h) (fn9 x g0)
  unfold fn9
  refine oP_dl ?_
  refine oP_ite (fun hb => ?_) (fun hb => ?_)
  · exact f_g0
  · refine oP_ite (fun hb => ?_) (fun hb => ?_)
    · exact f_g0
    · exact f_g0
theorem fn13_y {x : List Int} {g0 : rHp} {q : Int} : fY q g0 (fn13 x g0).2.2 := by
  have f_g0 : fY q g0 g0 := fY_refl
  show oP (fun h => fY q g0 h) (fn13 x g0)
  unfold fn13
  refine oP_dl ?_
  refine oP_dl ?_
  refine oP_dl ?_
  refine oP_dl ?_
  refine oP_dl ?_
  refine oP_dl ?_
  refine oP_dl ?_
  refine oP_ite (fun hb => ?_) (fun hb => ?_)
  · refine oP_ite (fun hb => ?_) (fun hb => ?_)
    · refine oP_ite (fun hb => ?_) (fun hb => ?_)
      · refine oP_ite (fun hb => ?_) (fun hb => ?_)
        · refine oP_ite (fun hb => ?_) (fun hb => ?_)
          · exact f_g0
          · refine oP_dl ?_
            refine oP_ite (fun hb => ?_) (fun hb => ?_)
            · exact f_g0
            · refine oP_dl ?_
              refine oP_ite (fun hb => ?_) (fun hb => ?_)
              · exact f_g0
              · refine oP_dl ?_
                refine oP_ite (fun hb => ?_) (fun hb => ?_)
                · exact f_g0
                · refine oP_dl ?_
                  refine oP_ite (fun hb => ?_) (fun hb => ?_)
                  · exact f_g0
                  · refine oP_dl ?_
                    refine oP_ite (fun hb => ?_) (fun hb => ?_)
                    · exact f_g0
                    · exact f_g0
        · refine oP_ite (fun hb => ?_) (fun hb => ?_)
          · exact f_g0
          · refine oP_dl ?_
            refine oP_ite (fun hb => ?_) (fun hb => ?_)
            · exact f_g0
            · refine oP_dl ?_
              refine oP_ite (fun hb => ?_) (fun hb => ?_)
              · exact f_g0
              · refine oP_dl ?_
                refine oP_ite (fun hb => ?_) (fun hb => ?_)
                · exact f_g0
                · refine oP_dl ?_
                  refine oP_ite (fun hb => ?_) (fun hb => ?_)
                  · exact f_g0
                  · exact f_g0
      · refine oP_ite (fun hb => ?_) (fun hb => ?_)
        · exact f_g0
        · refine oP_dl ?_
          refine oP_ite (fun hb => ?_) (fun hb => ?_)
          · exact f_g0
          · refine oP_dl ?_
            refine oP_ite (fun hb => ?_) (fun hb => ?_)
            · exact f_g0
            · refine oP_dl ?_
              refine oP_ite (fun hb => ?_) (fun hb => ?_)
              · exact f_g0
              · exact f_g0
    · refine oP_ite (fun hb => ?_) (fun hb => ?_)
      · exact f_g0
      · refine oP_dl ?_
        refine oP_ite (fun hb => ?_) (fun hb => ?_)
        · exact f_g0
        · refine oP_dl ?_
          refine oP_ite (fun hb => ?_) (fun hb => ?_)
          · exact f_g0
          · exact f_g0
  · refine oP_ite (fun hb => ?_) (fun hb => ?_)
    · exact f_g0
    · refine oP_dl ?_
      refine oP_ite (fun hb => ?_) (fun hb => ?_)
      · exact f_g0
      · exact f_g0
theorem fn15_y {x : List Int} {g0 : rHp} {q : Int} : fY q g0 (fn15 x g0).2.2 := by
  have f_g0 : fY q g0 g0 := fY_refl
  refine zGoo_P (I := fun s => fY q g0 s.2.2) fY_zero (fun s hs => ?_) ?_
  · unfold en15
    refine oS_ite (fun hb => ?_) (fun hb => ?_)
    · refine oS_let fun g1 e => ?_
      have f_g1 : fY q g0 g1 := by rw [e]; exact hs
      clear e
      refine oS_dl ?_
      refine oS_dl ?_
      refine oS_dl ?_
      refine oS_dl ?_
      refine oS_ite (fun hb => ?_) (fun hb => ?_)
      · refine oS_let fun g2 e => ?_
        have f_g2 : fY q g0 g2 := by rw [e]; exact fY_up f_g1 (by decide)
        clear e
        refine oS_let fun g3 e => ?_
        have f_g3 : fY q g0 g3 := by rw [e]; exact fY_up f_g2 (by decide)
        clear e
        exact f_g3
      · refine oS_dl ?_
        refine oS_ite (fun hb => ?_) (fun hb => ?_)
        · exact f_g1
        · exact f_g1
    · refine oS_ite (fun hb => ?_) (fun hb => ?_)
      · refine oS_let fun g1 e => ?_
        have f_g1 : fY q g0 g1 := by rw [e]; exact hs
        clear e
        refine oS_dl ?_
        refine oS_dl ?_
        refine oS_dl ?_
        refine oS_dl ?_
        refine oS_dl ?_
        refine oS_ite (fun hb => ?_) (fun hb => ?_)
        · refine oS_ite (fun hb => ?_) (fun hb => ?_)
          · exact f_g1
          · exact f_g1
        · refine oS_ite (fun hb => ?_) (fun hb => ?_)
          · exact f_g1
          · refine oS_dl ?_
            refine oS_dl ?_
            refine oS_dl ?_
            refine oS_ite (fun hb => ?_) (fun hb => ?_)
            · exact f_g1
            · exact f_g1
      · refine oS_ite (fun hb => ?_) (fun hb => ?_)
        · refine oS_let fun g1 e => ?_
          have f_g1 : fY q g0 g1 := by rw [e]; exact hs
          clear e
          refine oS_dl ?_
          refine oS_dl ?_
          refine oS_dl ?_
          refine oS_dl ?_
          refine oS_dl ?_
          refine oS_ite (fun hb => ?_) (fun hb => ?_)
          · refine oS_let fun g2 e => ?_
            have f_g2 : fY q g0 g2 := by rw [e]; exact fY_15 f_g1 (by decide)
            clear e
            refine oS_let fun g3 e => ?_
            have f_g3 : fY q g0 g3 := by rw [e]; exact fY_15 f_g2 (by decide)
            clear e
            exact f_g3
          · refine oS_dl ?_
            refine oS_let fun g2 e => ?_
            have f_g2 : fY q g0 g2 := by rw [e]; exact fY_up f_g1 (by decide)
            clear e
            exact f_g2
        · exact f_g0
  · unfold dn15
    exact f_g0
theorem fn18_y {x : List Int} {g0 : rHp} {q : Int} : fY q g0 (fn18 x g0).2.2 := by
  have f_g0 : fY q g0 g0 := fY_refl
  show oP (fun h => fY q g0 h) (fn18 x g0)
  unfold fn18
  refine oP_dl ?_
  refine oP_dl ?_
  refine oP_dl ?_
  refine oP_dl ?_
  refine oP_ite (fun hb => ?_) (fun hb => ?_)
  · exact f_g0
  · exact f_g0
theorem fn22_y {x : List Int} {g0 : rHp} {q : Int} : fY q g0 (fn22 x g0).2.2 := by
  have f_g0 : fY q g0 g0 := fY_refl
  refine zGoo_P (I := fun s => fY q g0 s.2.2) fY_zero (fun s hs => ?_) ?_
  · unfold en22
    refine oS_ite (fun hb => ?_) (fun hb => ?_)
    · refine oS_let fun g1 e => ?_
      have f_g1 : fY q g0 g1 := by rw [e]; exact hs
      clear e
      refine oS_dl ?_
      refine oS_dl ?_
      refine oS_dl ?_
      refine oS_dl ?_
      refine oS_dl ?_
      refine oS_ite (fun hb => ?_) (fun hb => ?_)
      · refine oS_let fun g2 e => ?_
        have f_g2 : fY q g0 g2 := by rw [e]; exact fY_14 f_g1 (by omega)
        clear e
        exact f_g2
      · refine oS_dl ?_
        refine oS_let fun g2 e => ?_
        have f_g2 : fY q g0 g2 := by rw [e]; exact fY_up f_g1 (by decide)
        clear e
        exact f_g2
    · exact f_g0
  · unfold dn22
    refine oS_dl ?_
    refine oS_dl ?_
    refine oS_dl ?_
    refine oS_dl ?_
    refine oS_let fun g1 e => ?_
    have f_g1 : fY q g0 g1 := by rw [e]; exact fY_66 f_g0 (Int.le_refl _)
    clear e
    refine oS_let fun g2 e => ?_
    have f_g2 : fY q g0 g2 := by rw [e]; exact fY_up f_g1 (by decide)
    clear e
    exact f_g2
theorem fn10_y {x : List Int} {g0 : rHp} {q : Int} : fY q g0 (fn10 x g0).2.2 := by
  have f_g0 : fY q g0 g0 := fY_refl
  show oP (fun h => fY q g0 h) (fn10 x g0)
  unfold fn10
  refine oP_dl ?_
  refine oP_ite (fun hb => ?_) (fun hb => ?_)
  · exact f_g0
  · refine oP_ite (fun hb => ?_) (fun hb => ?_)
    · exact f_g0
    · exact f_g0
theorem fn11_y {x : List Int} {g0 : rHp} {q : Int} : fY q g0 (fn11 x g0).2.2 := by
  have f_g0 : fY q g0 g0 := fY_refl
  show oP (fun h => fY q g0 h) (fn11 x g0)
  unfold fn11
  refine oP_dl ?_
  refine oP_ite (fun hb => ?_) (fun hb => ?_)
  · exact f_g0
  · refine oP_ite (fun hb => ?_) (fun hb => ?_)
    · exact f_g0
    · exact f_g0
theorem fn16_y {x : List Int} {g0 : rHp} {q : Int} : fY q g0 (fn16 x g0).2.2 := by
  have f_g0 : fY q g0 g0 := fY_refl
  refine zGoo_P (I := fun s => fY q g0 s.2.2) fY_zero (fun s hs => ?_) ?_
  · unfold en16
    refine oS_ite (fun hb => ?_) (fun hb => ?_)
    · refine oS_let fun g1 e => ?_
      have f_g1 : fY q g0 g1 := by rw [e]; exact hs
      clear e
      refine oS_dl ?_
      refine oS_dl ?_
      refine oS_dl ?_
      refine oS_dl ?_
      refine oS_dl ?_
      refine oS_ite (fun hb => ?_) (fun hb => ?_)
      · exact f_g1
      · refine oS_dl ?_
        refine oS_dl ?_
        refine oS_ite (fun hb => ?_) (fun hb => ?_)
        · exact f_g1
        · exact f_g1
    · exact f_g0
  · unfold dn16
    refine oS_dl ?_
    refine oS_dl ?_
    refine oS_dl ?_
    refine oS_ite (fun hb => ?_) (fun hb => ?_)
    · exact f_g0
    · exact f_g0
theorem fn29_y {x : List Int} {g0 : rHp} {q : Int} : fY q g0 (fn29 x g0).2.2 := by
  have f_g0 : fY q g0 g0 := fY_refl
  show oP (fun h => fY q g0 h) (fn29 x g0)
  unfold fn29
  refine oP_dl ?_
  refine oP_dl ?_
  refine oP_dl ?_
  refine oP_dl ?_
  refine oP_dl ?_
  refine oP_dl ?_
  refine oP_let fun g1 e => ?_
  have f_g1 : fY q g0 g1 := by rw [e]; exact fY_up f_g0 (by decide)
  clear e
  refine oP_dl ?_
  refine oP_let fun g2 e => ?_
  have f_g2 : fY q g0 g2 := by rw [e]; exact fY_up f_g1 (by decide)
  clear e
  refine oP_dl ?_
  refine oP_let fun g3 e => ?_
  have f_g3 : fY q g0 g3 := by rw [e]; exact fY_up f_g2 (by decide)
  clear e
  refine oP_dl ?_
  refine oP_let fun g4 e => ?_
  have f_g4 : fY q g0 g4 := by rw [e]; exact fY_up f_g3 (by decide)
  clear e
  refine oP_let fun g5 e => ?_
  have f_g5 : fY q g0 g5 := by rw [e]; exact fY_up f_g4 (by decide)
  clear e
  refine oP_let fun g6 e => ?_
  have f_g6 : fY q g0 g6 := by rw [e]; exact fY_up f_g5 (by decide)
  clear e
  refine oP_let fun g7 e => ?_
  have f_g7 : fY q g0 g7 := by rw [e]; exact fY_up f_g6 (by decide)
  clear e
  refine oP_let fun g8 e => ?_
  have f_g8 : fY q g0 g8 := by rw [e]; exact fY_up f_g7 (by decide)
  clear e
  exact f_g8
theorem fn45_y {x : List Int} {g0 : rHp} {q : Int} : fY q g0 (fn45 x g0).2.2 := by
  have f_g0 : fY q g0 g0 := fY_refl
  refine zGoo_P (I := fun s => fY q g0 s.2.2) fY_zero (fun s hs => ?_) ?_
  · unfold en45
    refine oS_ite (fun hb => ?_) (fun hb => ?_)
    · refine oS_let fun g1 e => ?_
      have f_g1 : fY q g0 g1 := by rw [e]; exact hs
      clear e
      refine oS_dl ?_
      refine oS_dl ?_
      refine oS_dl ?_
      refine oS_ite (fun hb => ?_) (fun hb => ?_)
      · exact f_g1
      · refine oS_dl ?_
        refine oS_ite (fun hb => ?_) (fun hb => ?_)
        · exact f_g1
        · exact f_g1
    · refine oS_ite (fun hb => ?_) (fun hb => ?_)
      · refine oS_let fun g1 e => ?_
        have f_g1 : fY q g0 g1 := by rw [e]; exact hs
        clear e
        refine oS_dl ?_
        refine oS_dl ?_
        refine oS_dl ?_
        refine oS_dl ?_
        refine oS_dl ?_
        refine oS_dl ?_
        refine oS_ite (fun hb => ?_) (fun hb => ?_)
        · refine oS_ite (fun hb => ?_) (fun hb => ?_)
          · exact f_g1
          · exact f_g1
        · refine oS_ite (fun hb => ?_) (fun hb => ?_)
          · exact f_g1
          · refine oS_dl ?_
            refine oS_dl ?_
            refine oS_ite (fun hb => ?_) (fun hb => ?_)
            · exact f_g1
            · exact f_g1
      · exact f_g0
  · unfold dn45
    refine oS_dl ?_
    refine oS_dl ?_
    exact f_g0
theorem fn46_y {x : List Int} {g0 : rHp} {q : Int} : fY q g0 (fn46 x g0).2.2 := by
  have f_g0 : fY q g0 g0 := fY_refl
  refine zGoo_P (I := fun s => fY q g0 s.2.2) fY_zero (fun s hs => ?_) ?_
  · unfold en46
    refine oS_ite (fun hb => ?_) (fun hb => ?_)
    · refine oS_let fun g1 e => ?_
      have f_g1 : fY q g0 g1 := by rw [e]; exact hs
      clear e
      refine oS_dl ?_
      refine oS_dl ?_
      refine oS_dl ?_
      refine oS_ite (fun hb => ?_) (fun hb => ?_)
      · exact f_g1
      · exact f_g1
    · refine oS_ite (fun hb => ?_) (fun hb => ?_)
      · refine oS_let fun g1 e => ?_
        have f_g1 : fY q g0 g1 := by rw [e]; exact hs
        clear e
        refine oS_dl ?_
        refine oS_dl ?_
        refine oS_dl ?_
        exact f_g1
      · exact f_g0
  · unfold dn46
    refine oS_dl ?_
    refine oS_dl ?_
    exact f_g0
theorem fn31_y {x : List Int} {g0 : rHp} {q : Int} : fY q g0 (fn31 x g0).2.2 := by
  have f_g0 : fY q g0 g0 := fY_refl
  refine zGoo_P (I := fun s => fY q g0 s.2.2) fY_zero (fun s hs => ?_) ?_
  · unfold en31
    refine oS_ite (fun hb => ?_) (fun hb => ?_)
    · refine oS_let fun g1 e => ?_
      have f_g1 : fY q g0 g1 := by rw [e]; exact hs
      clear e
      refine oS_dl ?_
      refine oS_dl ?_
      refine oS_ite (fun hb => ?_) (fun hb => ?_)
      · exact f_g1
      · refine oS_dl ?_
        refine oS_ite (fun hb => ?_) (fun hb => ?_)
        · exact f_g1
        · refine oS_dl ?_
          refine oS_let fun p1 e_p1 => ?_
          refine oS_let fun g2 e => ?_
          have f_g2 : fY q g0 g2 := by rw [e, e_p1]; exact fY_tr f_g1 fn8_y
          clear e
          exact f_g2
    · exact f_g0
  · unfold dn31
    exact f_g0
theorem fn7_y {x : List Int} {g0 : rHp} {q : Int} : fY q g0 (fn7 x g0).2.2 := by
  have f_g0 : fY q g0 g0 := fY_refl
  refine zGoo_P (I := fun s => fY q g0 s.2.2) fY_zero (fun s hs => ?_) ?_
  · unfold en7
    refine oS_ite (fun hb => ?_) (fun hb => ?_)
    · refine oS_let fun g1 e => ?_
      have f_g1 : fY q g0 g1 := by rw [e]; exact hs
      clear e
      refine oS_dl ?_
      refine oS_dl ?_
      refine oS_let fun p1 e_p1 => ?_
      refine oS_let fun g2 e => ?_
      have f_g2 : fY q g0 g2 := by rw [e, e_p1]; exact fY_tr f_g1 fn6_y
      clear e
      refine oS_ite (fun hb => ?_) (fun hb => ?_)
      · refine oS_dl ?_
        refine oS_ite (fun hb => ?_) (fun hb => ?_)
        · refine oS_let fun g3 e => ?_
          have f_g3 : fY q g0 g3 := by rw [e]; exact fY_15 f_g2 (by decide)
          clear e
          exact f_g3
        · refine oS_let fun p2 e_p2 => ?_
          refine oS_let fun g3 e => ?_
          have f_g3 : fY q g0 g3 := by rw [e, e_p2]; exact fY_tr f_g2 fn6_y
          clear e
          refine oS_dl ?_
          refine oS_ite (fun hb => ?_) (fun hb => ?_)
          · exact f_g3
          · refine oS_let fun g4 e => ?_
            have f_g4 : fY q g0 g4 := by rw [e]; exact fY_15 f_g3 (by decide)
            clear e
            exact f_g4
      · refine oS_let fun p2 e_p2 => ?_
        refine oS_let fun g3 e => ?_
        have f_g3 : fY q g0 g3 := by rw [e, e_p2]; exact fY_tr f_g2 fn6_y
        clear e
        exact f_g3
    · exact f_g0
  · unfold dn7
    refine oS_dl ?_
    refine oS_dl ?_
    refine oS_let fun p0 e_p0 => ?_
    refine oS_let fun g1 e => ?_
    have f_g1 : fY q g0 g1 := by rw [e, e_p0]; exact fY_tr f_g0 fn6_y
    clear e
    refine oS_ite (fun hb => ?_) (fun hb => ?_)
    · refine oS_dl ?_
      refine oS_ite (fun hb => ?_) (fun hb => ?_)
      · refine oS_let fun g2 e => ?_
        have f_g2 : fY q g0 g2 := by rw [e]; exact fY_15 f_g1 (by decide)
        clear e
        exact f_g2
      · refine oS_let fun p1 e_p1 => ?_
        refine oS_let fun g2 e => ?_
        have f_g2 : fY q g0 g2 := by rw [e, e_p1]; exact fY_tr f_g1 fn6_y
        clear e
        refine oS_dl ?_
        refine oS_ite (fun hb => ?_) (fun hb => ?_)
        · exact f_g2
        · refine oS_let fun g3 e => ?_
          have f_g3 : fY q g0 g3 := by rw [e]; exact fY_15 f_g2 (by decide)
          clear e
          exact f_g3
    · refine oS_let fun p1 e_p1 => ?_
      refine oS_let fun g2 e => ?_
      have f_g2 : fY q g0 g2 := by rw [e, e_p1]; exact fY_tr f_g1 fn6_y
      clear e
      exact f_g2
theorem fn28_y {x : List Int} {g0 : rHp} {q : Int} : fY q g0 (fn28 x g0).2.2 := by
  have f_g0 : fY q g0 g0 := fY_refl
  refine zGoo_P (I := fun s => fY q g0 s.2.2) fY_zero (fun s hs => ?_) ?_
  · unfold en28
    refine oS_ite (fun hb => ?_) (fun hb => ?_)
    · refine oS_let fun g1 e => ?_
      have f_g1 : fY q g0 g1 := by rw [e]; exact hs
      clear e
      refine oS_dl ?_
      refine oS_dl ?_
      refine oS_ite (fun hb => ?_) (fun hb => ?_)
      · exact f_g1
      · refine oS_dl ?_
        refine oS_ite (fun hb => ?_) (fun hb => ?_)
        · refine oS_dl ?_
          refine oS_let fun p1 e_p1 => ?_
          refine oS_let fun g2 e => ?_
          have f_g2 : fY q g0 g2 := by rw [e, e_p1]; exact fY_tr f_g1 fn18_y
          clear e
          refine oS_ite (fun hb => ?_) (fun hb => ?_)
          · exact f_g2
          · refine oS_dl ?_
            refine oS_let fun p2 e_p2 => ?_
            refine oS_let fun g3 e => ?_
            have f_g3 : fY q g0 g3 := by rw [e, e_p2]; exact fY_tr f_g2 fn8_y
            clear e
            exact f_g3
        · refine oS_dl ?_
          refine oS_dl ?_
          refine oS_dl ?_
          refine oS_dl ?_
          refine oS_ite (fun hb => ?_) (fun hb => ?_)
          · exact f_g1
          · refine oS_dl ?_
            refine oS_ite (fun hb => ?_) (fun hb => ?_)
            · refine oS_dl ?_
              refine oS_let fun p1 e_p1 => ?_
              refine oS_let fun g2 e => ?_
              have f_g2 : fY q g0 g2 := by rw [e, e_p1]; exact fY_tr f_g1 fn8_y
              clear e
              exact f_g2
            · exact f_g1
    · exact f_g0
  · unfold dn28
    exact f_g0
theorem fn12_y {x : List Int} {g0 : rHp} {q : Int} : fY q g0 (fn12 x g0).2.2 := by
  have f_g0 : fY q g0 g0 := fY_refl
  refine zGoo_P (I := fun s => fY q g0 s.2.2) fY_zero (fun s hs => ?_) ?_
  · unfold en12
    refine oS_ite (fun hb => ?_) (fun hb => ?_)
    · refine oS_let fun g1 e => ?_
      have f_g1 : fY q g0 g1 := by rw [e]; exact hs
      clear e
      refine oS_dl ?_
      refine oS_dl ?_
      refine oS_dl ?_
      refine oS_let fun p1 e_p1 => ?_
      refine oS_let fun g2 e => ?_
      have f_g2 : fY q g0 g2 := by rw [e, e_p1]; exact fY_tr f_g1 fn6_y
      clear e
      refine oS_ite (fun hb => ?_) (fun hb => ?_)
      · refine oS_dl ?_
        refine oS_let fun p2 e_p2 => ?_
        refine oS_let fun g3 e => ?_
        have f_g3 : fY q g0 g3 := by rw [e, e_p2]; exact fY_tr f_g2 fn9_y
        clear e
        refine oS_ite (fun hb => ?_) (fun hb => ?_)
        · exact f_g3
        · refine oS_let fun p3 e_p3 => ?_
          refine oS_let fun g4 e => ?_
          have f_g4 : fY q g0 g4 := by rw [e, e_p3]; exact fY_tr f_g3 fn6_y
          clear e
          refine oS_dl ?_
          refine oS_let fun p4 e_p4 => ?_
          refine oS_let fun g5 e => ?_
          have f_g5 : fY q g0 g5 := by rw [e, e_p4]; exact fY_tr f_g4 fn11_y
          clear e
          refine oS_ite (fun hb => ?_) (fun hb => ?_)
          · exact f_g5
          · refine oS_let fun p5 e_p5 => ?_
            refine oS_let fun g6 e => ?_
            have f_g6 : fY q g0 g6 := by rw [e, e_p5]; exact fY_tr f_g5 fn6_y
            clear e
            refine oS_dl ?_
            refine oS_ite (fun hb => ?_) (fun hb => ?_)
            · refine oS_let fun g7 e => ?_
              have f_g7 : fY q g0 g7 := by rw [e]; exact fY_15 f_g6 (by decide)
              clear e
              refine oS_ite (fun hb => ?_) (fun hb => ?_)
              · refine oS_let fun g8 e => ?_
                have f_g8 : fY q g0 g8 := by rw [e]; exact fY_15 f_g7 (by decide)
                clear e
                exact f_g8
              · refine oS_let fun p7 e_p7 => ?_
                refine oS_let fun g8 e => ?_
                have f_g8 : fY q g0 g8 := by rw [e, e_p7]; exact fY_tr f_g7 fn8_y
                clear e
                exact f_g8
            · exact f_g6
      · refine oS_let fun p2 e_p2 => ?_
        refine oS_let fun g3 e => ?_
        have f_g3 : fY q g0 g3 := by rw [e, e_p2]; exact fY_tr f_g2 fn9_y
        clear e
        refine oS_let fun p3 e_p3 => ?_
        refine oS_let fun g4 e => ?_
        have f_g4 : fY q g0 g4 := by rw [e, e_p3]; exact fY_tr f_g3 fn6_y
        clear e
        refine oS_let fun p4 e_p4 => ?_
        refine oS_let fun g5 e => ?_
        have f_g5 : fY q g0 g5 := by rw [e, e_p4]; exact fY_tr f_g4 fn11_y
        clear e
        refine oS_let fun p5 e_p5 => ?_
        refine oS_let fun g6 e => ?_
        have f_g6 : fY q g0 g6 := by rw [e, e_p5]; exact fY_tr f_g5 fn6_y
        clear e
        refine oS_let fun g7 e => ?_
        have f_g7 : fY q g0 g7 := by rw [e]; exact fY_15 f_g6 (by decide)
        clear e
        refine oS_ite (fun hb => ?_) (fun hb => ?_)
        · refine oS_let fun g8 e => ?_
          have f_g8 : fY q g0 g8 := by rw [e]; exact fY_15 f_g7 (by decide)
          clear e
          exact f_g8
        · refine oS_let fun p7 e_p7 => ?_
          refine oS_let fun g8 e => ?_
          have f_g8 : fY q g0 g8 := by rw [e, e_p7]; exact fY_tr f_g7 fn8_y
          clear e
          exact f_g8
    · exact f_g0
  · unfold dn12
    refine oS_dl ?_
    refine oS_let fun g1 e => ?_
    have f_g1 : fY q g0 g1 := by rw [e]; exact fY_15 f_g0 (by decide)
    clear e
    exact f_g1
theorem fn14_y {x : List Int} {g0 : rHp} {q : Int} : fY q g0 (fn14 x g0).2.2 := by
  have f_g0 : fY q g0 g0 := fY_refl
  refine zGoo_P (I := fun s => fY q g0 s.2.2) fY_zero (fun s hs => ?_) ?_
  · unfold en14
    refine oS_ite (fun hb => ?_) (fun hb => ?_)
    · refine oS_let fun g1 e => ?_
      have f_g1 : fY q g0 g1 := by rw [e]; exact hs
      clear e
      refine oS_dl ?_
      refine oS_dl ?_
      refine oS_dl ?_
      refine oS_dl ?_
      refine oS_dl ?_
      refine oS_dl ?_
      refine oS_let fun p1 e_p1 => ?_
      refine oS_let fun g2 e => ?_
      have f_g2 : fY q g0 g2 := by rw [e, e_p1]; exact fY_tr f_g1 fn6_y
      clear e
      refine oS_ite (fun hb => ?_) (fun hb => ?_)
      · refine oS_dl ?_
        refine oS_let fun p2 e_p2 => ?_
        refine oS_let fun g3 e => ?_
        have f_g3 : fY q g0 g3 := by rw [e, e_p2]; exact fY_tr f_g2 fn11_y
        clear e
        refine oS_ite (fun hb => ?_) (fun hb => ?_)
        · exact f_g3
        · refine oS_let fun p3 e_p3 => ?_
          refine oS_let fun g4 e => ?_
          have f_g4 : fY q g0 g4 := by rw [e, e_p3]; exact fY_tr f_g3 fn8_y
          clear e
          exact f_g4
      · refine oS_let fun p2 e_p2 => ?_
        refine oS_let fun g3 e => ?_
        have f_g3 : fY q g0 g3 := by rw [e, e_p2]; exact fY_tr f_g2 fn11_y
        clear e
        refine oS_let fun p3 e_p3 => ?_
        refine oS_let fun g4 e => ?_
        have f_g4 : fY q g0 g4 := by rw [e, e_p3]; exact fY_tr f_g3 fn8_y
        clear e
        exact f_g4
    · exact f_g0
  · unfold dn14
    refine oS_dl ?_
    refine oS_dl ?_
    refine oS_let fun p0 e_p0 => ?_
    refine oS_let fun g1 e => ?_
    have f_g1 : fY q g0 g1 := by rw [e, e_p0]; exact fY_tr f_g0 fn6_y
    clear e
    refine oS_dl ?_
    refine oS_ite (fun hb => ?_) (fun hb => ?_)
    · refine oS_let fun p1 e_p1 => ?_
      refine oS_let fun g2 e => ?_
      have f_g2 : fY q g0 g2 := by rw [e, e_p1]; exact fY_tr f_g1 fn6_y
      clear e
      refine oS_dl ?_
      refine oS_let fun p2 e_p2 => ?_
      refine oS_let fun g3 e => ?_
      have f_g3 : fY q g0 g3 := by rw [e, e_p2]; exact fY_tr f_g2 fn11_y
      clear e
      refine oS_ite (fun hb => ?_) (fun hb => ?_)
      · refine oS_let fun p3 e_p3 => ?_
        refine oS_let fun g4 e => ?_
        have f_g4 : fY q g0 g4 := by rw [e, e_p3]; exact fY_tr f_g3 fn6_y
        clear e
        refine oS_dl ?_
        refine oS_let fun p4 e_p4 => ?_
        refine oS_let fun g5 e => ?_
        have f_g5 : fY q g0 g5 := by rw [e, e_p4]; exact fY_tr f_g4 fn6_y
        clear e
        refine oS_ite (fun hb => ?_) (fun hb => ?_)
        · refine oS_dl ?_
          refine oS_let fun p5 e_p5 => ?_
          refine oS_let fun g6 e => ?_
          have f_g6 : fY q g0 g6 := by rw [e, e_p5]; exact fY_tr f_g5 fn11_y
          clear e
          refine oS_ite (fun hb => ?_) (fun hb => ?_)
          · refine oS_let fun p6 e_p6 => ?_
            refine oS_let fun g7 e => ?_
            have f_g7 : fY q g0 g7 := by rw [e, e_p6]; exact fY_tr f_g6 fn6_y
            clear e
            refine oS_dl ?_
            refine oS_let fun p7 e_p7 => ?_
            refine oS_let fun g8 e => ?_
            have f_g8 : fY q g0 g8 := by rw [e, e_p7]; exact fY_tr f_g7 fn6_y
            clear e
            refine oS_ite (fun hb => ?_) (fun hb => ?_)
            · refine oS_dl ?_
              refine oS_let fun p8 e_p8 => ?_
              refine oS_let fun g9 e => ?_
              have f_g9 : fY q g0 g9 := by rw [e, e_p8]; exact fY_tr f_g8 fn11_y
              clear e
              refine oS_ite (fun hb => ?_) (fun hb => ?_)
              · refine oS_let fun p9 e_p9 => ?_
                refine oS_let fun g10 e => ?_
                have f_g10 : fY q g0 g10 := by rw [e, e_p9]; exact fY_tr f_g9 fn6_y
                clear e
                refine oS_dl ?_
                refine oS_let fun p10 e_p10 => ?_
                refine oS_let fun g11 e => ?_
                have f_g11 : fY q g0 g11 := by rw [e, e_p10]; exact fY_tr f_g10 fn6_y
                clear e
                refine oS_ite (fun hb => ?_) (fun hb => ?_)
                · refine oS_dl ?_
                  refine oS_let fun p11 e_p11 => ?_
                  refine oS_let fun g12 e => ?_
                  have f_g12 : fY q g0 g12 := by rw [e, e_p11]; exact fY_tr f_g11 fn11_y
                  clear e
                  refine oS_ite (fun hb => ?_) (fun hb => ?_)
                  · refine oS_let fun p12 e_p12 => ?_
                    refine oS_let fun g13 e => ?_
                    have f_g13 : fY q g0 g13 := by rw [e, e_p12]; exact fY_tr f_g12 fn6_y
                    clear e
                    refine oS_dl ?_
                    refine oS_let fun p13 e_p13 => ?_
                    refine oS_let fun g14 e => ?_
                    have f_g14 : fY q g0 g14 := by rw [e, e_p13]; exact fY_tr f_g13 fn6_y
                    clear e
                    refine oS_ite (fun hb => ?_) (fun hb => ?_)
                    · refine oS_dl ?_
                      refine oS_let fun p14 e_p14 => ?_
                      refine oS_let fun g15 e => ?_
                      have f_g15 : fY q g0 g15 := by rw [e, e_p14]; exact fY_tr f_g14 fn11_y
                      clear e
                      refine oS_ite (fun hb => ?_) (fun hb => ?_)
                      · refine oS_let fun p15 e_p15 => ?_
                        refine oS_let fun g16 e => ?_
                        have f_g16 : fY q g0 g16 := by rw [e, e_p15]; exact fY_tr f_g15 fn6_y
                        clear e
                        refine oS_dl ?_
                        refine oS_let fun p16 e_p16 => ?_
                        refine oS_let fun g17 e => ?_
                        have f_g17 : fY q g0 g17 := by rw [e, e_p16]; exact fY_tr f_g16 fn6_y
                        clear e
                        refine oS_ite (fun hb => ?_) (fun hb => ?_)
                        · refine oS_dl ?_
                          refine oS_let fun p17 e_p17 => ?_
                          refine oS_let fun g18 e => ?_
                          have f_g18 : fY q g0 g18 := by rw [e, e_p17]; exact fY_tr f_g17 fn11_y
                          clear e
                          refine oS_ite (fun hb => ?_) (fun hb => ?_)
                          · refine oS_let fun p18 e_p18 => ?_
                            refine oS_let fun g19 e => ?_
                            have f_g19 : fY q g0 g19 := by rw [e, e_p18]; exact fY_tr f_g18 fn6_y
                            clear e
                            refine oS_dl ?_
                            refine oS_let fun p19 e_p19 => ?_
                            refine oS_let fun g20 e => ?_
                            have f_g20 : fY q g0 g20 := by rw [e, e_p19]; exact fY_tr f_g19 fn6_y
                            clear e
                            refine oS_ite (fun hb => ?_) (fun hb => ?_)
                            · refine oS_dl ?_
                              refine oS_let fun p20 e_p20 => ?_
                              refine oS_let fun g21 e => ?_
                              have f_g21 : fY q g0 g21 := by rw [e, e_p20]; exact fY_tr f_g20 fn11_y
                              clear e
                              refine oS_ite (fun hb => ?_) (fun hb => ?_)
                              · refine oS_let fun p21 e_p21 => ?_
                                refine oS_let fun g22 e => ?_
                                have f_g22 : fY q g0 g22 := by rw [e, e_p21]; exact fY_tr f_g21 fn6_y
                                clear e
                                refine oS_dl ?_
                                refine oS_let fun p22 e_p22 => ?_
                                refine oS_let fun g23 e => ?_
                                have f_g23 : fY q g0 g23 := by rw [e, e_p22]; exact fY_tr f_g22 fn6_y
                                clear e
                                refine oS_ite (fun hb => ?_) (fun hb => ?_)
                                · refine oS_dl ?_
                                  refine oS_let fun p23 e_p23 => ?_
                                  refine oS_let fun g24 e => ?_
                                  have f_g24 : fY q g0 g24 := by rw [e, e_p23]; exact fY_tr f_g23 fn11_y
                                  clear e
                                  refine oS_ite (fun hb => ?_) (fun hb => ?_)
                                  · refine oS_let fun p24 e_p24 => ?_
                                    refine oS_let fun g25 e => ?_
                                    have f_g25 : fY q g0 g25 := by rw [e, e_p24]; exact fY_tr f_g24 fn6_y
                                    clear e
                                    refine oS_dl ?_
                                    exact f_g25
                                  · refine oS_let fun g25 e => ?_
                                    have f_g25 : fY q g0 g25 := by rw [e]; exact fY_15 f_g24 (by decide)
                                    clear e
                                    refine oS_let fun g26 e => ?_
                                    have f_g26 : fY q g0 g26 := by rw [e]; exact fY_15 f_g25 (by decide)
                                    clear e
                                    refine oS_let fun g27 e => ?_
                                    have f_g27 : fY q g0 g27 := by rw [e]; exact fY_15 f_g26 (by decide)
                                    clear e
                                    exact f_g27
                                · refine oS_let fun p23 e_p23 => ?_
                                  refine oS_let fun g24 e => ?_
                                  have f_g24 : fY q g0 g24 := by rw [e, e_p23]; exact fY_tr f_g23 fn11_y
                                  clear e
                                  refine oS_let fun g25 e => ?_
                                  have f_g25 : fY q g0 g25 := by rw [e]; exact fY_15 f_g24 (by decide)
                                  clear e
                                  refine oS_let fun g26 e => ?_
                                  have f_g26 : fY q g0 g26 := by rw [e]; exact fY_15 f_g25 (by decide)
                                  clear e
                                  refine oS_let fun g27 e => ?_
                                  have f_g27 : fY q g0 g27 := by rw [e]; exact fY_15 f_g26 (by decide)
                                  clear e
                                  exact f_g27
                              · refine oS_let fun g22 e => ?_
                                have f_g22 : fY q g0 g22 := by rw [e]; exact fY_15 f_g21 (by decide)
                                clear e
                                refine oS_let fun g23 e => ?_
                                have f_g23 : fY q g0 g23 := by rw [e]; exact fY_15 f_g22 (by decide)
                                clear e
                                refine oS_let fun g24 e => ?_
                                have f_g24 : fY q g0 g24 := by rw [e]; exact fY_15 f_g23 (by decide)
                                clear e
                                exact f_g24
                            · refine oS_let fun p20 e_p20 => ?_
                              refine oS_let fun g21 e => ?_
                              have f_g21 : fY q g0 g21 := by rw [e, e_p20]; exact fY_tr f_g20 fn11_y
                              clear e
                              refine oS_let fun g22 e => ?_
                              have f_g22 : fY q g0 g22 := by rw [e]; exact fY_15 f_g21 (by decide)
                              clear e
                              refine oS_let fun g23 e => ?_
                              have f_g23 : fY q g0 g23 := by rw [e]; exact fY_15 f_g22 (by decide)
                              clear e
                              refine oS_let fun g24 e => ?_
                              have f_g24 : fY q g0 g24 := by rw [e]; exact fY_15 f_g23 (by decide)
                              clear e
                              exact f_g24
                          · refine oS_let fun g19 e => ?_
                            have f_g19 : fY q g0 g19 := by rw [e]; exact fY_15 f_g18 (by decide)
                            clear e
                            refine oS_let fun g20 e => ?_
                            have f_g20 : fY q g0 g20 := by rw [e]; exact fY_15 f_g19 (by decide)
                            clear e
                            refine oS_let fun g21 e => ?_
                            have f_g21 : fY q g0 g21 := by rw [e]; exact fY_15 f_g20 (by decide)
                            clear e
                            exact f_g21
                        · refine oS_let fun p17 e_p17 => ?_
                          refine oS_let fun g18 e => ?_
                          have f_g18 : fY q g0 g18 := by rw [e, e_p17]; exact fY_tr f_g17 fn11_y
                          clear e
                          refine oS_let fun g19 e => ?_
                          have f_g19 : fY q g0 g19 := by rw [e]; exact fY_15 f_g18 (by decide)
                          clear e
                          refine oS_let fun g20 e => ?_
                          have f_g20 : fY q g0 g20 := by rw [e]; exact fY_15 f_g19 (by decide)
                          clear e
                          refine oS_let fun g21 e => ?_
                          have f_g21 : fY q g0 g21 := by rw [e]; exact fY_15 f_g20 (by decide)
                          clear e
                          exact f_g21
                      · refine oS_let fun g16 e => ?_
                        have f_g16 : fY q g0 g16 := by rw [e]; exact fY_15 f_g15 (by decide)
                        clear e
                        refine oS_let fun g17 e => ?_
                        have f_g17 : fY q g0 g17 := by rw [e]; exact fY_15 f_g16 (by decide)
                        clear e
                        refine oS_let fun g18 e => ?_
                        have f_g18 : fY q g0 g18 := by rw [e]; exact fY_15 f_g17 (by decide)
                        clear e
                        exact f_g18
                    · refine oS_let fun p14 e_p14 => ?_
                      refine oS_let fun g15 e => ?_
                      have f_g15 : fY q g0 g15 := by rw [e, e_p14]; exact fY_tr f_g14 fn11_y
                      clear e
                      refine oS_let fun g16 e => ?_
                      have f_g16 : fY q g0 g16 := by rw [e]; exact fY_15 f_g15 (by decide)
                      clear e
                      refine oS_let fun g17 e => ?_
                      have f_g17 : fY q g0 g17 := by rw [e]; exact fY_15 f_g16 (by decide)
                      clear e
                      refine oS_let fun g18 e => ?_
                      have f_g18 : fY q g0 g18 := by rw [e]; exact fY_15 f_g17 (by decide)
                      clear e
                      exact f_g18
                  · refine oS_let fun g13 e => ?_
                    have f_g13 : fY q g0 g13 := by rw [e]; exact fY_15 f_g12 (by decide)
                    clear e
                    refine oS_let fun g14 e => ?_
                    have f_g14 : fY q g0 g14 := by rw [e]; exact fY_15 f_g13 (by decide)
                    clear e
                    refine oS_let fun g15 e => ?_
                    have f_g15 : fY q g0 g15 := by rw [e]; exact fY_15 f_g14 (by decide)
                    clear e
                    exact f_g15
                · refine oS_let fun p11 e_p11 => ?_
                  refine oS_let fun g12 e => ?_
                  have f_g12 : fY q g0 g12 := by rw [e, e_p11]; exact fY_tr f_g11 fn11_y
                  clear e
                  refine oS_let fun g13 e => ?_
                  have f_g13 : fY q g0 g13 := by rw [e]; exact fY_15 f_g12 (by decide)
                  clear e
                  refine oS_let fun g14 e => ?_
                  have f_g14 : fY q g0 g14 := by rw [e]; exact fY_15 f_g13 (by decide)
                  clear e
                  refine oS_let fun g15 e => ?_
                  have f_g15 : fY q g0 g15 := by rw [e]; exact fY_15 f_g14 (by decide)
                  clear e
                  exact f_g15
              · refine oS_let fun g10 e => ?_
                have f_g10 : fY q g0 g10 := by rw [e]; exact fY_15 f_g9 (by decide)
                clear e
                refine oS_let fun g11 e => ?_
                have f_g11 : fY q g0 g11 := by rw [e]; exact fY_15 f_g10 (by decide)
                clear e
                refine oS_let fun g12 e => ?_
                have f_g12 : fY q g0 g12 := by rw [e]; exact fY_15 f_g11 (by decide)
                clear e
                exact f_g12
            · refine oS_let fun p8 e_p8 => ?_
              refine oS_let fun g9 e => ?_
              have f_g9 : fY q g0 g9 := by rw [e, e_p8]; exact fY_tr f_g8 fn11_y
              clear e
              refine oS_let fun g10 e => ?_
              have f_g10 : fY q g0 g10 := by rw [e]; exact fY_15 f_g9 (by decide)
              clear e
              refine oS_let fun g11 e => ?_
              have f_g11 : fY q g0 g11 := by rw [e]; exact fY_15 f_g10 (by decide)
              clear e
              refine oS_let fun g12 e => ?_
              have f_g12 : fY q g0 g12 := by rw [e]; exact fY_15 f_g11 (by decide)
              clear e
              exact f_g12
          · refine oS_let fun g7 e => ?_
            have f_g7 : fY q g0 g7 := by rw [e]; exact fY_15 f_g6 (by decide)
            clear e
            refine oS_let fun g8 e => ?_
            have f_g8 : fY q g0 g8 := by rw [e]; exact fY_15 f_g7 (by decide)
            clear e
            refine oS_let fun g9 e => ?_
            have f_g9 : fY q g0 g9 := by rw [e]; exact fY_15 f_g8 (by decide)
            clear e
            exact f_g9
        · refine oS_let fun p5 e_p5 => ?_
          refine oS_let fun g6 e => ?_
          have f_g6 : fY q g0 g6 := by rw [e, e_p5]; exact fY_tr f_g5 fn11_y
          clear e
          refine oS_let fun g7 e => ?_
          have f_g7 : fY q g0 g7 := by rw [e]; exact fY_15 f_g6 (by decide)
          clear e
          refine oS_let fun g8 e => ?_
          have f_g8 : fY q g0 g8 := by rw [e]; exact fY_15 f_g7 (by decide)
          clear e
          refine oS_let fun g9 e => ?_
          have f_g9 : fY q g0 g9 := by rw [e]; exact fY_15 f_g8 (by decide)
          clear e
          exact f_g9
      · refine oS_let fun p3 e_p3 => ?_
        refine oS_let fun g4 e => ?_
        have f_g4 : fY q g0 g4 := by rw [e, e_p3]; exact fY_tr f_g3 fn8_y
        clear e
        exact f_g4
    · refine oS_let fun p1 e_p1 => ?_
      refine oS_let fun g2 e => ?_
      have f_g2 : fY q g0 g2 := by rw [e, e_p1]; exact fY_tr f_g1 fn6_y
      clear e
      refine oS_ite (fun hb => ?_) (fun hb => ?_)
      · refine oS_dl ?_
        refine oS_let fun p2 e_p2 => ?_
        refine oS_let fun g3 e => ?_
        have f_g3 : fY q g0 g3 := by rw [e, e_p2]; exact fY_tr f_g2 fn11_y
        clear e
        refine oS_ite (fun hb => ?_) (fun hb => ?_)
        · refine oS_let fun p3 e_p3 => ?_
          refine oS_let fun g4 e => ?_
          have f_g4 : fY q g0 g4 := by rw [e, e_p3]; exact fY_tr f_g3 fn6_y
          clear e
          refine oS_dl ?_
          refine oS_let fun p4 e_p4 => ?_
          refine oS_let fun g5 e => ?_
          have f_g5 : fY q g0 g5 := by rw [e, e_p4]; exact fY_tr f_g4 fn6_y
          clear e
          refine oS_ite (fun hb => ?_) (fun hb => ?_)
          · refine oS_dl ?_
            refine oS_let fun p5 e_p5 => ?_
            refine oS_let fun g6 e => ?_
            have f_g6 : fY q g0 g6 := by rw [e, e_p5]; exact fY_tr f_g5 fn11_y
            clear e
            refine oS_ite (fun hb => ?_) (fun hb => ?_)
            · refine oS_let fun p6 e_p6 => ?_
              refine oS_let fun g7 e => ?_
              have f_g7 : fY q g0 g7 := by rw [e, e_p6]; exact fY_tr f_g6 fn6_y
              clear e
              refine oS_dl ?_
              refine oS_let fun p7 e_p7 => ?_
              refine oS_let fun g8 e => ?_
              have f_g8 : fY q g0 g8 := by rw [e, e_p7]; exact fY_tr f_g7 fn6_y
              clear e
              refine oS_ite (fun hb => ?_) (fun hb => ?_)
              · refine oS_dl ?_
                refine oS_let fun p8 e_p8 => ?_
                refine oS_let fun g9 e => ?_
                have f_g9 : fY q g0 g9 := by rw [e, e_p8]; exact fY_tr f_g8 fn11_y
                clear e
                refine oS_ite (fun hb => ?_) (fun hb => ?_)
                · refine oS_let fun p9 e_p9 => ?_
                  refine oS_let fun g10 e => ?_
                  have f_g10 : fY q g0 g10 := by rw [e, e_p9]; exact fY_tr f_g9 fn6_y
                  clear e
                  refine oS_dl ?_
                  refine oS_let fun p10 e_p10 => ?_
                  refine oS_let fun g11 e => ?_
                  have f_g11 : fY q g0 g11 := by rw [e, e_p10]; exact fY_tr f_g10 fn6_y
                  clear e
                  refine oS_ite (fun hb => ?_) (fun hb => ?_)
                  · refine oS_dl ?_
                    refine oS_let fun p11 e_p11 => ?_
                    refine oS_let fun g12 e => ?_
                    have f_g12 : fY q g0 g12 := by rw [e, e_p11]; exact fY_tr f_g11 fn11_y
                    clear e
                    refine oS_ite (fun hb => ?_) (fun hb => ?_)
                    · refine oS_let fun p12 e_p12 => ?_
                      refine oS_let fun g13 e => ?_
                      have f_g13 : fY q g0 g13 := by rw [e, e_p12]; exact fY_tr f_g12 fn6_y
                      clear e
                      refine oS_dl ?_
                      refine oS_let fun p13 e_p13 => ?_
                      refine oS_let fun g14 e => ?_
                      have f_g14 : fY q g0 g14 := by rw [e, e_p13]; exact fY_tr f_g13 fn6_y
                      clear e
                      refine oS_ite (fun hb => ?_) (fun hb => ?_)
                      · refine oS_dl ?_
                        refine oS_let fun p14 e_p14 => ?_
                        refine oS_let fun g15 e => ?_
                        have f_g15 : fY q g0 g15 := by rw [e, e_p14]; exact fY_tr f_g14 fn11_y
                        clear e
                        refine oS_ite (fun hb => ?_) (fun hb => ?_)
                        · refine oS_let fun p15 e_p15 => ?_
                          refine oS_let fun g16 e => ?_
                          have f_g16 : fY q g0 g16 := by rw [e, e_p15]; exact fY_tr f_g15 fn6_y
                          clear e
                          refine oS_dl ?_
                          refine oS_let fun p16 e_p16 => ?_
                          refine oS_let fun g17 e => ?_
                          have f_g17 : fY q g0 g17 := by rw [e, e_p16]; exact fY_tr f_g16 fn6_y
                          clear e
                          refine oS_ite (fun hb => ?_) (fun hb => ?_)
                          · refine oS_dl ?_
                            refine oS_let fun p17 e_p17 => ?_
                            refine oS_let fun g18 e => ?_
                            have f_g18 : fY q g0 g18 := by rw [e, e_p17]; exact fY_tr f_g17 fn11_y
                            clear e
                            refine oS_ite (fun hb => ?_) (fun hb => ?_)
                            · refine oS_let fun p18 e_p18 => ?_
                              refine oS_let fun g19 e => ?_
                              have f_g19 : fY q g0 g19 := by rw [e, e_p18]; exact fY_tr f_g18 fn6_y
                              clear e
                              refine oS_dl ?_
                              refine oS_let fun p19 e_p19 => ?_
                              refine oS_let fun g20 e => ?_
                              have f_g20 : fY q g0 g20 := by rw [e, e_p19]; exact fY_tr f_g19 fn6_y
                              clear e
                              refine oS_ite (fun hb => ?_) (fun hb => ?_)
                              · refine oS_dl ?_
                                refine oS_let fun p20 e_p20 => ?_
                                refine oS_let fun g21 e => ?_
                                have f_g21 : fY q g0 g21 := by rw [e, e_p20]; exact fY_tr f_g20 fn11_y
                                clear e
                                refine oS_ite (fun hb => ?_) (fun hb => ?_)
                                · refine oS_let fun p21 e_p21 => ?_
                                  refine oS_let fun g22 e => ?_
                                  have f_g22 : fY q g0 g22 := by rw [e, e_p21]; exact fY_tr f_g21 fn6_y
                                  clear e
                                  refine oS_dl ?_
                                  refine oS_let fun p22 e_p22 => ?_
                                  refine oS_let fun g23 e => ?_
                                  have f_g23 : fY q g0 g23 := by rw [e, e_p22]; exact fY_tr f_g22 fn6_y
                                  clear e
                                  refine oS_ite (fun hb => ?_) (fun hb => ?_)
                                  · refine oS_dl ?_
                                    refine oS_let fun p23 e_p23 => ?_
                                    refine oS_let fun g24 e => ?_
                                    have f_g24 : fY q g0 g24 := by rw [e, e_p23]; exact fY_tr f_g23 fn11_y
                                    clear e
                                    refine oS_ite (fun hb => ?_) (fun hb => ?_)
                                    · refine oS_let fun p24 e_p24 => ?_
                                      refine oS_let fun g25 e => ?_
                                      have f_g25 : fY q g0 g25 := by rw [e, e_p24]; exact fY_tr f_g24 fn6_y
                                      clear e
                                      refine oS_dl ?_
                                      exact f_g25
                                    · refine oS_let fun g25 e => ?_
                                      have f_g25 : fY q g0 g25 := by rw [e]; exact fY_15 f_g24 (by decide)
                                      clear e
                                      refine oS_dl ?_
                                      refine oS_let fun g26 e => ?_
                                      have f_g26 : fY q g0 g26 := by rw [e]; exact fY_15 f_g25 (by decide)
                                      clear e
                                      refine oS_let fun g27 e => ?_
                                      have f_g27 : fY q g0 g27 := by rw [e]; exact fY_15 f_g26 (by decide)
                                      clear e
                                      exact f_g27
                                  · refine oS_let fun p23 e_p23 => ?_
                                    refine oS_let fun g24 e => ?_
                                    have f_g24 : fY q g0 g24 := by rw [e, e_p23]; exact fY_tr f_g23 fn11_y
                                    clear e
                                    refine oS_let fun g25 e => ?_
                                    have f_g25 : fY q g0 g25 := by rw [e]; exact fY_15 f_g24 (by decide)
                                    clear e
                                    refine oS_dl ?_
                                    refine oS_let fun g26 e => ?_
                                    have f_g26 : fY q g0 g26 := by rw [e]; exact fY_15 f_g25 (by decide)
                                    clear e
                                    refine oS_let fun g27 e => ?_
                                    have f_g27 : fY q g0 g27 := by rw [e]; exact fY_15 f_g26 (by decide)
                                    clear e
                                    exact f_g27
                                · refine oS_let fun g22 e => ?_
                                  have f_g22 : fY q g0 g22 := by rw [e]; exact fY_15 f_g21 (by decide)
                                  clear e
                                  refine oS_dl ?_
                                  refine oS_let fun g23 e => ?_
                                  have f_g23 : fY q g0 g23 := by rw [e]; exact fY_15 f_g22 (by decide)
                                  clear e
                                  refine oS_let fun g24 e => ?_
                                  have f_g24 : fY q g0 g24 := by rw [e]; exact fY_15 f_g23 (by decide)
                                  clear e
                                  exact f_g24
                              · refine oS_let fun p20 e_p20 => ?_
                                refine oS_let fun g21 e => ?_
                                have f_g21 : fY q g0 g21 := by rw [e, e_p20]; exact fY_tr f_g20 fn11_y
                                clear e
                                refine oS_let fun g22 e => ?_
                                have f_g22 : fY q g0 g22 := by rw [e]; exact fY_15 f_g21 (by decide)
                                clear e
                                refine oS_dl ?_
                                refine oS_let fun g23 e => ?_
                                have f_g23 : fY q g0 g23 := by rw [e]; exact fY_15 f_g22 (by decide)
                                clear e
                                refine oS_let fun g24 e => ?_
                                have f_g24 : fY q g0 g24 := by rw [e]; exact fY_15 f_g23 (by decide)
                                clear e
                                exact f_g24
                            · refine oS_let fun g19 e => ?_
                              have f_g19 : fY q g0 g19 := by rw [e]; exact fY_15 f_g18 (by decide)
                              clear e
                              refine oS_dl ?_
                              refine oS_let fun g20 e => ?_
                              have f_g20 : fY q g0 g20 := by rw [e]; exact fY_15 f_g19 (by decide)
                              clear e
                              refine oS_let fun g21 e => ?_
                              have f_g21 : fY q g0 g21 := by rw [e]; exact fY_15 f_g20 (by decide)
                              clear e
                              exact f_g21
                          · refine oS_let fun p17 e_p17 => ?_
                            refine oS_let fun g18 e => ?_
                            have f_g18 : fY q g0 g18 := by rw [e, e_p17]; exact fY_tr f_g17 fn11_y
                            clear e
                            refine oS_let fun g19 e => ?_
                            have f_g19 : fY q g0 g19 := by rw [e]; exact fY_15 f_g18 (by decide)
                            clear e
                            refine oS_dl ?_
                            refine oS_let fun g20 e => ?_
                            have f_g20 : fY q g0 g20 := by rw [e]; exact fY_15 f_g19 (by decide)
                            clear e
                            refine oS_let fun g21 e => ?_
                            have f_g21 : fY q g0 g21 := by rw [e]; exact fY_15 f_g20 (by decide)
                            clear e
                            exact f_g21
                        · refine oS_let fun g16 e => ?_
                          have f_g16 : fY q g0 g16 := by rw [e]; exact fY_15 f_g15 (by decide)
                          clear e
                          refine oS_dl ?_
                          refine oS_let fun g17 e => ?_
                          have f_g17 : fY q g0 g17 := by rw [e]; exact fY_15 f_g16 (by decide)
                          clear e
                          refine oS_let fun g18 e => ?_
                          have f_g18 : fY q g0 g18 := by rw [e]; exact fY_15 f_g17 (by decide)
                          clear e
                          exact f_g18
                      · refine oS_let fun p14 e_p14 => ?_
                        refine oS_let fun g15 e => ?_
                        have f_g15 : fY q g0 g15 := by rw [e, e_p14]; exact fY_tr f_g14 fn11_y
                        clear e
                        refine oS_let fun g16 e => ?_
                        have f_g16 : fY q g0 g16 := by rw [e]; exact fY_15 f_g15 (by decide)
                        clear e
                        refine oS_dl ?_
                        refine oS_let fun g17 e => ?_
                        have f_g17 : fY q g0 g17 := by rw [e]; exact fY_15 f_g16 (by decide)
                        clear e
                        refine oS_let fun g18 e => ?_
                        have f_g18 : fY q g0 g18 := by rw [e]; exact fY_15 f_g17 (by decide)
                        clear e
                        exact f_g18
                    · refine oS_let fun g13 e => ?_
                      have f_g13 : fY q g0 g13 := by rw [e]; exact fY_15 f_g12 (by decide)
                      clear e
                      refine oS_dl ?_
                      refine oS_let fun g14 e => ?_
                      have f_g14 : fY q g0 g14 := by rw [e]; exact fY_15 f_g13 (by decide)
                      clear e
                      refine oS_let fun g15 e => ?_
                      have f_g15 : fY q g0 g15 := by rw [e]; exact fY_15 f_g14 (by decide)
                      clear e
                      exact f_g15
                  · refine oS_let fun p11 e_p11 => ?_
                    refine oS_let fun g12 e => ?_
                    have f_g12 : fY q g0 g12 := by rw [e, e_p11]; exact fY_tr f_g11 fn11_y
                    clear e
                    refine oS_let fun g13 e => ?_
                    have f_g13 : fY q g0 g13 := by rw [e]; exact fY_15 f_g12 (by decide)
                    clear e
                    refine oS_dl ?_
                    refine oS_let fun g14 e => ?_
                    have f_g14 : fY q g0 g14 := by rw [e]; exact fY_15 f_g13 (by decide)
                    clear e
                    refine oS_let fun g15 e => ?_
                    have f_g15 : fY q g0 g15 := by rw [e]; exact fY_15 f_g14 (by decide)
                    clear e
                    exact f_g15
                · refine oS_let fun g10 e => ?_
                  have f_g10 : fY q g0 g10 := by rw [e]; exact fY_15 f_g9 (by decide)
                  clear e
                  refine oS_dl ?_
                  refine oS_let fun g11 e => ?_
                  have f_g11 : fY q g0 g11 := by rw [e]; exact fY_15 f_g10 (by decide)
                  clear e
                  refine oS_let fun g12 e => ?_
                  have f_g12 : fY q g0 g12 := by rw [e]; exact fY_15 f_g11 (by decide)
                  clear e
                  exact f_g12
              · refine oS_let fun p8 e_p8 => ?_
                refine oS_let fun g9 e => ?_
                have f_g9 : fY q g0 g9 := by rw [e, e_p8]; exact fY_tr f_g8 fn11_y
                clear e
                refine oS_let fun g10 e => ?_
                have f_g10 : fY q g0 g10 := by rw [e]; exact fY_15 f_g9 (by decide)
                clear e
                refine oS_dl ?_
                refine oS_let fun g11 e => ?_
                have f_g11 : fY q g0 g11 := by rw [e]; exact fY_15 f_g10 (by decide)
                clear e
                refine oS_let fun g12 e => ?_
                have f_g12 : fY q g0 g12 := by rw [e]; exact fY_15 f_g11 (by decide)
                clear e
                exact f_g12
            · refine oS_let fun g7 e => ?_
              have f_g7 : fY q g0 g7 := by rw [e]; exact fY_15 f_g6 (by decide)
              clear e
              refine oS_dl ?_
              refine oS_let fun g8 e => ?_
              have f_g8 : fY q g0 g8 := by rw [e]; exact fY_15 f_g7 (by decide)
              clear e
              refine oS_let fun g9 e => ?_
              have f_g9 : fY q g0 g9 := by rw [e]; exact fY_15 f_g8 (by decide)
              clear e
              exact f_g9
          · refine oS_let fun p5 e_p5 => ?_
            refine oS_let fun g6 e => ?_
            have f_g6 : fY q g0 g6 := by rw [e, e_p5]; exact fY_tr f_g5 fn11_y
            clear e
            refine oS_let fun g7 e => ?_
            have f_g7 : fY q g0 g7 := by rw [e]; exact fY_15 f_g6 (by decide)
            clear e
            refine oS_dl ?_
            refine oS_let fun g8 e => ?_
            have f_g8 : fY q g0 g8 := by rw [e]; exact fY_15 f_g7 (by decide)
            clear e
            refine oS_let fun g9 e => ?_
            have f_g9 : fY q g0 g9 := by rw [e]; exact fY_15 f_g8 (by decide)
            clear e
            exact f_g9
        · refine oS_let fun p3 e_p3 => ?_
          refine oS_let fun g4 e => ?_
          have f_g4 : fY q g0 g4 := by rw [e, e_p3]; exact fY_tr f_g3 fn8_y
          clear e
          exact f_g4
      · refine oS_let fun p2 e_p2 => ?_
        refine oS_let fun g3 e => ?_
        have f_g3 : fY q g0 g3 := by rw [e, e_p2]; exact fY_tr f_g2 fn11_y
        clear e
        refine oS_let fun p3 e_p3 => ?_
        refine oS_let fun g4 e => ?_
        have f_g4 : fY q g0 g4 := by rw [e, e_p3]; exact fY_tr f_g3 fn8_y
        clear e
        exact f_g4
theorem fn30_y {x : List Int} {g0 : rHp} {q : Int} : fY q g0 (fn30 x g0).2.2 := by
  have f_g0 : fY q g0 g0 := fY_refl
  refine zGoo_P (I := fun s => fY q g0 s.2.2) fY_zero (fun s hs => ?_) ?_
  · unfold en30
    refine oS_ite (fun hb => ?_) (fun hb => ?_)
    · refine oS_let fun g1 e => ?_
      have f_g1 : fY q g0 g1 := by rw [e]; exact hs
      clear e
      refine oS_dl ?_
      refine oS_dl ?_
      refine oS_ite (fun hb => ?_) (fun hb => ?_)
      · exact f_g1
      · exact f_g1
    · refine oS_ite (fun hb => ?_) (fun hb => ?_)
      · refine oS_let fun g1 e => ?_
        have f_g1 : fY q g0 g1 := by rw [e]; exact hs
        clear e
        refine oS_dl ?_
        refine oS_dl ?_
        refine oS_ite (fun hb => ?_) (fun hb => ?_)
        · exact f_g1
        · refine oS_dl ?_
          refine oS_dl ?_
          refine oS_ite (fun hb => ?_) (fun hb => ?_)
          · exact f_g1
          · refine oS_let fun p1 e_p1 => ?_
            refine oS_let fun g2 e => ?_
            have f_g2 : fY q g0 g2 := by rw [e, e_p1]; exact fY_tr f_g1 fn29_y
            clear e
            exact f_g2
      · exact f_g0
  · unfold dn30
    exact f_g0
theorem fn24_y {x : List Int} {g0 : rHp} {q : Int} : fY q g0 (fn24 x g0).2.2 := by
  have f_g0 : fY q g0 g0 := fY_refl
  show oP (fun h => fY q g0 h) (fn24 x g0)
  unfold fn24
  refine oP_dl ?_
  refine oP_dl ?_
  refine oP_let fun p0 e_p0 => ?_
  refine oP_let fun g1 e => ?_
  have f_g1 : fY q g0 g1 := by rw [e, e_p0]; exact fY_tr f_g0 fn7_y
  clear e
  refine oP_dl ?_
  refine oP_let fun p1 e_p1 => ?_
  refine oP_let fun g2 e => ?_
  have f_g2 : fY q g0 g2 := by rw [e, e_p1]; exact fY_tr f_g1 fn6_y
  clear e
  refine oP_ite (fun hb => ?_) (fun hb => ?_)
  · refine oP_dl ?_
    refine oP_ite (fun hb => ?_) (fun hb => ?_)
    · refine oP_let fun g3 e => ?_
      have f_g3 : fY q g0 g3 := by rw [e]; exact fY_15 f_g2 (by decide)
      clear e
      exact f_g3
    · refine oP_let fun p2 e_p2 => ?_
      refine oP_let fun g3 e => ?_
      have f_g3 : fY q g0 g3 := by rw [e, e_p2]; exact fY_tr f_g2 fn8_y
      clear e
      exact f_g3
  · refine oP_let fun p2 e_p2 => ?_
    refine oP_let fun g3 e => ?_
    have f_g3 : fY q g0 g3 := by rw [e, e_p2]; exact fY_tr f_g2 fn8_y
    clear e
    exact f_g3
theorem fn17_y {x : List Int} {g0 : rHp} {q : Int} : fY q g0 (fn17 x g0).2.2 := by
  have f_g0 : fY q g0 g0 := fY_refl
  refine zGoo_P (I := fun s => fY q g0 s.2.2) fY_zero (fun s hs => ?_) ?_
  · unfold en17
    refine oS_ite (fun hb => ?_) (fun hb => ?_)
    · refine oS_let fun g1 e => ?_
      have f_g1 : fY q g0 g1 := by rw [e]; exact hs
      clear e
      refine oS_dl ?_
      refine oS_dl ?_
      refine oS_dl ?_
      refine oS_dl ?_
      refine oS_dl ?_
      refine oS_ite (fun hb => ?_) (fun hb => ?_)
      · refine oS_ite (fun hb => ?_) (fun hb => ?_)
        · refine oS_let fun g2 e => ?_
          have f_g2 : fY q g0 g2 := by rw [e]; exact fY_up f_g1 (by decide)
          clear e
          refine oS_let fun g3 e => ?_
          have f_g3 : fY q g0 g3 := by rw [e]; exact fY_up f_g2 (by decide)
          clear e
          refine oS_let fun g4 e => ?_
          have f_g4 : fY q g0 g4 := by rw [e]; exact fY_up f_g3 (by decide)
          clear e
          refine oS_let fun g5 e => ?_
          have f_g5 : fY q g0 g5 := by rw [e]; exact fY_up f_g4 (by decide)
          clear e
          refine oS_let fun g6 e => ?_
          have f_g6 : fY q g0 g6 := by rw [e]; exact fY_up f_g5 (by decide)
          clear e
          refine oS_let fun g7 e => ?_
          have f_g7 : fY q g0 g7 := by rw [e]; exact fY_15 f_g6 (by decide)
          clear e
          refine oS_let fun g8 e => ?_
          have f_g8 : fY q g0 g8 := by rw [e]; exact fY_15 f_g7 (by decide)
          clear e
          exact f_g8
        · refine oS_let fun p1 e_p1 => ?_
          refine oS_let fun g2 e => ?_
          have f_g2 : fY q g0 g2 := by rw [e, e_p1]; exact fY_tr f_g1 fn8_y
          clear e
          exact f_g2
      · refine oS_let fun p1 e_p1 => ?_
        refine oS_let fun g2 e => ?_
        have f_g2 : fY q g0 g2 := by rw [e, e_p1]; exact fY_tr f_g1 fn16_y
        clear e
        refine oS_ite (fun hb => ?_) (fun hb => ?_)
        · refine oS_ite (fun hb => ?_) (fun hb => ?_)
          · refine oS_dl ?_
            refine oS_dl ?_
            refine oS_let fun g3 e => ?_
            have f_g3 : fY q g0 g3 := by rw [e]; exact fY_up f_g2 (by decide)
            clear e
            refine oS_let fun g4 e => ?_
            have f_g4 : fY q g0 g4 := by rw [e]; exact fY_15 f_g3 (by decide)
            clear e
            refine oS_let fun g5 e => ?_
            have f_g5 : fY q g0 g5 := by rw [e]; exact fY_15 f_g4 (by decide)
            clear e
            exact f_g5
          · refine oS_let fun p2 e_p2 => ?_
            refine oS_let fun g3 e => ?_
            have f_g3 : fY q g0 g3 := by rw [e, e_p2]; exact fY_tr f_g2 fn8_y
            clear e
            exact f_g3
        · exact f_g2
    · exact f_g0
  · unfold dn17
    refine oS_let fun p0 e_p0 => ?_
    refine oS_let fun g1 e => ?_
    have f_g1 : fY q g0 g1 := by rw [e, e_p0]; exact fY_tr f_g0 fn12_y
    clear e
    refine oS_ite (fun hb => ?_) (fun hb => ?_)
    · exact f_g1
    · exact f_g1
theorem fn23_y {x : List Int} {g0 : rHp} {q : Int} : fY q g0 (fn23 x g0).2.2 := by
  have f_g0 : fY q g0 g0 := fY_refl
  show oP (fun h => fY q g0 h) (fn23 x g0)
  unfold fn23
  refine oP_dl ?_
  refine oP_let fun p0 e_p0 => ?_
  refine oP_let fun g1 e => ?_
  have f_g1 : fY q g0 g1 := by rw [e, e_p0]; exact fY_tr f_g0 fn7_y
  clear e
  refine oP_dl ?_
  refine oP_let fun p1 e_p1 => ?_
  refine oP_let fun g2 e => ?_
  have f_g2 : fY q g0 g2 := by rw [e, e_p1]; exact fY_tr f_g1 fn6_y
  clear e
  refine oP_ite (fun hb => ?_) (fun hb => ?_)
  · refine oP_dl ?_
    refine oP_let fun p2 e_p2 => ?_
    refine oP_let fun g3 e => ?_
    have f_g3 : fY q g0 g3 := by rw [e, e_p2]; exact fY_tr f_g2 fn9_y
    clear e
    refine oP_ite (fun hb => ?_) (fun hb => ?_)
    · refine oP_let fun p3 e_p3 => ?_
      refine oP_let fun g4 e => ?_
      have f_g4 : fY q g0 g4 := by rw [e, e_p3]; exact fY_tr f_g3 fn12_y
      clear e
      refine oP_ite (fun hb => ?_) (fun hb => ?_)
      · exact f_g4
      · exact f_g4
    · refine oP_let fun p3 e_p3 => ?_
      refine oP_let fun g4 e => ?_
      have f_g4 : fY q g0 g4 := by rw [e, e_p3]; exact fY_tr f_g3 fn8_y
      clear e
      exact f_g4
  · refine oP_let fun p2 e_p2 => ?_
    refine oP_let fun g3 e => ?_
    have f_g3 : fY q g0 g3 := by rw [e, e_p2]; exact fY_tr f_g2 fn9_y
    clear e
    refine oP_let fun p3 e_p3 => ?_
    refine oP_let fun g4 e => ?_
    have f_g4 : fY q g0 g4 := by rw [e, e_p3]; exact fY_tr f_g3 fn8_y
    clear e
    exact f_g4
theorem fn20_y {x : List Int} {g0 : rHp} {q : Int} : fY q g0 (fn20 x g0).2.2 := by
  have f_g0 : fY q g0 g0 := fY_refl
  show oP (fun h => fY q g0 h) (fn20 x g0)
  unfold fn20
  refine oP_dl ?_
  refine oP_dl ?_
  refine oP_let fun p0 e_p0 => ?_
  refine oP_let fun g1 e => ?_
  have f_g1 : fY q g0 g1 := by rw [e, e_p0]; exact fY_tr f_g0 fn7_y
  clear e
  refine oP_dl ?_
  refine oP_let fun p1 e_p1 => ?_
  refine oP_let fun g2 e => ?_
  have f_g2 : fY q g0 g2 := by rw [e, e_p1]; exact fY_tr f_g1 fn6_y
  clear e
  refine oP_ite (fun hb => ?_) (fun hb => ?_)
  · refine oP_dl ?_
    refine oP_let fun p2 e_p2 => ?_
    refine oP_let fun g3 e => ?_
    have f_g3 : fY q g0 g3 := by rw [e, e_p2]; exact fY_tr f_g2 fn10_y
    clear e
    refine oP_ite (fun hb => ?_) (fun hb => ?_)
    · refine oP_let fun p3 e_p3 => ?_
      refine oP_let fun g4 e => ?_
      have f_g4 : fY q g0 g4 := by rw [e, e_p3]; exact fY_tr f_g3 fn17_y
      clear e
      refine oP_ite (fun hb => ?_) (fun hb => ?_)
      · exact f_g4
      · exact f_g4
    · refine oP_let fun p3 e_p3 => ?_
      refine oP_let fun g4 e => ?_
      have f_g4 : fY q g0 g4 := by rw [e, e_p3]; exact fY_tr f_g3 fn9_y
      clear e
      refine oP_ite (fun hb => ?_) (fun hb => ?_)
      · refine oP_let fun p4 e_p4 => ?_
        refine oP_let fun g5 e => ?_
        have f_g5 : fY q g0 g5 := by rw [e, e_p4]; exact fY_tr f_g4 fn12_y
        clear e
        refine oP_ite (fun hb => ?_) (fun hb => ?_)
        · refine oP_let fun p5 e_p5 => ?_
          refine oP_let fun g6 e => ?_
          have f_g6 : fY q g0 g6 := by rw [e, e_p5]; exact fY_tr f_g5 fn15_y
          clear e
          refine oP_dl ?_
          refine oP_let fun g7 e => ?_
          have f_g7 : fY q g0 g7 := by rw [e]; exact fY_15 f_g6 (by decide)
          clear e
          refine oP_let fun g8 e => ?_
          have f_g8 : fY q g0 g8 := by rw [e]; exact fY_15 f_g7 (by decide)
          clear e
          exact f_g8
        · exact f_g5
      · refine oP_ite (fun hb => ?_) (fun hb => ?_)
        · refine oP_ite (fun hb => ?_) (fun hb => ?_)
          · refine oP_let fun p4 e_p4 => ?_
            refine oP_let fun g5 e => ?_
            have f_g5 : fY q g0 g5 := by rw [e, e_p4]; exact fY_tr f_g4 fn14_y
            clear e
            refine oP_ite (fun hb => ?_) (fun hb => ?_)
            · exact f_g5
            · exact f_g5
          · refine oP_let fun p4 e_p4 => ?_
            refine oP_let fun g5 e => ?_
            have f_g5 : fY q g0 g5 := by rw [e, e_p4]; exact fY_tr f_g4 fn11_y
            clear e
            refine oP_ite (fun hb => ?_) (fun hb => ?_)
            · refine oP_let fun p5 e_p5 => ?_
              refine oP_let fun g6 e => ?_
              have f_g6 : fY q g0 g6 := by rw [e, e_p5]; exact fY_tr f_g5 fn14_y
              clear e
              refine oP_ite (fun hb => ?_) (fun hb => ?_)
              · exact f_g6
              · exact f_g6
            · refine oP_let fun p5 e_p5 => ?_
              refine oP_let fun g6 e => ?_
              have f_g6 : fY q g0 g6 := by rw [e, e_p5]; exact fY_tr f_g5 fn8_y
              clear e
              exact f_g6
        · refine oP_ite (fun hb => ?_) (fun hb => ?_)
          · refine oP_ite (fun hb => ?_) (fun hb => ?_)
            · refine oP_let fun p4 e_p4 => ?_
              refine oP_let fun g5 e => ?_
              have f_g5 : fY q g0 g5 := by rw [e, e_p4]; exact fY_tr f_g4 fn14_y
              clear e
              refine oP_ite (fun hb => ?_) (fun hb => ?_)
              · exact f_g5
              · exact f_g5
            · refine oP_let fun p4 e_p4 => ?_
              refine oP_let fun g5 e => ?_
              have f_g5 : fY q g0 g5 := by rw [e, e_p4]; exact fY_tr f_g4 fn11_y
              clear e
              refine oP_ite (fun hb => ?_) (fun hb => ?_)
              · refine oP_let fun p5 e_p5 => ?_
                refine oP_let fun g6 e => ?_
                have f_g6 : fY q g0 g6 := by rw [e, e_p5]; exact fY_tr f_g5 fn14_y
                clear e
                refine oP_ite (fun hb => ?_) (fun hb => ?_)
                · exact f_g6
                · exact f_g6
              · refine oP_let fun p5 e_p5 => ?_
                refine oP_let fun g6 e => ?_
                have f_g6 : fY q g0 g6 := by rw [e, e_p5]; exact fY_tr f_g5 fn8_y
                clear e
                exact f_g6
          · refine oP_let fun g5 e => ?_
            have f_g5 : fY q g0 g5 := by rw [e]; exact fY_15 f_g4 (by decide)
            clear e
            refine oP_let fun g6 e => ?_
            have f_g6 : fY q g0 g6 := by rw [e]; exact fY_15 f_g5 (by decide)
            clear e
            refine oP_let fun g7 e => ?_
            have f_g7 : fY q g0 g7 := by rw [e]; exact fY_15 f_g6 (by decide)
            clear e
            exact f_g7
  · refine oP_let fun p2 e_p2 => ?_
    refine oP_let fun g3 e => ?_
    have f_g3 : fY q g0 g3 := by rw [e, e_p2]; exact fY_tr f_g2 fn10_y
    clear e
    refine oP_let fun p3 e_p3 => ?_
    refine oP_let fun g4 e => ?_
    have f_g4 : fY q g0 g4 := by rw [e, e_p3]; exact fY_tr f_g3 fn9_y
    clear e
    refine oP_let fun p4 e_p4 => ?_
    refine oP_let fun g5 e => ?_
    have f_g5 : fY q g0 g5 := by rw [e, e_p4]; exact fY_tr f_g4 fn11_y
    clear e
    refine oP_let fun p5 e_p5 => ?_
    refine oP_let fun g6 e => ?_
    have f_g6 : fY q g0 g6 := by rw [e, e_p5]; exact fY_tr f_g5 fn8_y
    clear e
    exact f_g6
theorem fn26_y {x : List Int} {g0 : rHp} {q : Int} : fY q g0 (fn26 x g0).2.2 := by
  have f_g0 : fY q g0 g0 := fY_refl
  show oP (fun h => fY q g0 h) (fn26 x g0)
  unfold fn26
  refine oP_dl ?_
  refine oP_dl ?_
  refine oP_dl ?_
  refine oP_ite (fun hb => ?_) (fun hb => ?_)
  · refine oP_let fun g1 e => ?_
    have f_g1 : fY q g0 g1 := by rw [e]; exact fY_15 f_g0 (by decide)
    clear e
    refine oP_let fun p1 e_p1 => ?_
    refine oP_let fun g2 e => ?_
    have f_g2 : fY q g0 g2 := by rw [e, e_p1]; exact fY_tr f_g1 fn23_y
    clear e
    refine oP_ite (fun hb => ?_) (fun hb => ?_)
    · refine oP_dl ?_
      refine oP_let fun p2 e_p2 => ?_
      refine oP_let fun g3 e => ?_
      have f_g3 : fY q g0 g3 := by rw [e, e_p2]; exact fY_tr f_g2 fn13_y
      clear e
      refine oP_ite (fun hb => ?_) (fun hb => ?_)
      · refine oP_let fun g4 e => ?_
        have f_g4 : fY q g0 g4 := by rw [e]; exact fY_15 f_g3 (by decide)
        clear e
        refine oP_let fun g5 e => ?_
        have f_g5 : fY q g0 g5 := by rw [e]; exact fY_15 f_g4 (by decide)
        clear e
        refine oP_let fun g6 e => ?_
        have f_g6 : fY q g0 g6 := by rw [e]; exact fY_15 f_g5 (by decide)
        clear e
        exact f_g6
      · refine oP_let fun p3 e_p3 => ?_
        refine oP_let fun g4 e => ?_
        have f_g4 : fY q g0 g4 := by rw [e, e_p3]; exact fY_tr f_g3 fn13_y
        clear e
        refine oP_ite (fun hb => ?_) (fun hb => ?_)
        · refine oP_let fun g5 e => ?_
          have f_g5 : fY q g0 g5 := by rw [e]; exact fY_15 f_g4 (by decide)
          clear e
          refine oP_let fun p5 e_p5 => ?_
          refine oP_let fun g6 e => ?_
          have f_g6 : fY q g0 g6 := by rw [e, e_p5]; exact fY_tr f_g5 fn7_y
          clear e
          refine oP_dl ?_
          refine oP_let fun p6 e_p6 => ?_
          refine oP_let fun g7 e => ?_
          have f_g7 : fY q g0 g7 := by rw [e, e_p6]; exact fY_tr f_g6 fn6_y
          clear e
          refine oP_ite (fun hb => ?_) (fun hb => ?_)
          · refine oP_dl ?_
            refine oP_let fun p7 e_p7 => ?_
            refine oP_let fun g8 e => ?_
            have f_g8 : fY q g0 g8 := by rw [e, e_p7]; exact fY_tr f_g7 fn10_y
            clear e
            refine oP_ite (fun hb => ?_) (fun hb => ?_)
            · refine oP_let fun p8 e_p8 => ?_
              refine oP_let fun g9 e => ?_
              have f_g9 : fY q g0 g9 := by rw [e, e_p8]; exact fY_tr f_g8 fn17_y
              clear e
              refine oP_ite (fun hb => ?_) (fun hb => ?_)
              · refine oP_dl ?_
                refine oP_let fun g10 e => ?_
                have f_g10 : fY q g0 g10 := by rw [e]; exact fY_15 f_g9 (by decide)
                clear e
                refine oP_let fun p10 e_p10 => ?_
                refine oP_let fun g11 e => ?_
                have f_g11 : fY q g0 g11 := by rw [e, e_p10]; exact fY_tr f_g10 fn25_y
                clear e
                refine oP_let fun g12 e => ?_
                have f_g12 : fY q g0 g12 := by rw [e]; exact fY_15 f_g11 (by decide)
                clear e
                refine oP_let fun g13 e => ?_
                have f_g13 : fY q g0 g13 := by rw [e]; exact fY_15 f_g12 (by decide)
                clear e
                exact f_g13
              · exact f_g9
            · refine oP_let fun p8 e_p8 => ?_
              refine oP_let fun g9 e => ?_
              have f_g9 : fY q g0 g9 := by rw [e, e_p8]; exact fY_tr f_g8 fn8_y
              clear e
              exact f_g9
          · refine oP_let fun p7 e_p7 => ?_
            refine oP_let fun g8 e => ?_
            have f_g8 : fY q g0 g8 := by rw [e, e_p7]; exact fY_tr f_g7 fn10_y
            clear e
            refine oP_let fun p8 e_p8 => ?_
            refine oP_let fun g9 e => ?_
            have f_g9 : fY q g0 g9 := by rw [e, e_p8]; exact fY_tr f_g8 fn8_y
            clear e
            exact f_g9
        · refine oP_let fun p4 e_p4 => ?_
          refine oP_let fun g5 e => ?_
          have f_g5 : fY q g0 g5 := by rw [e, e_p4]; exact fY_tr f_g4 fn13_y
          clear e
          refine oP_ite (fun hb => ?_) (fun hb => ?_)
          · refine oP_let fun g6 e => ?_
            have f_g6 : fY q g0 g6 := by rw [e]; exact fY_15 f_g5 (by decide)
            clear e
            refine oP_let fun p6 e_p6 => ?_
            refine oP_let fun g7 e => ?_
            have f_g7 : fY q g0 g7 := by rw [e, e_p6]; exact fY_tr f_g6 fn7_y
            clear e
            refine oP_dl ?_
            refine oP_let fun p7 e_p7 => ?_
            refine oP_let fun g8 e => ?_
            have f_g8 : fY q g0 g8 := by rw [e, e_p7]; exact fY_tr f_g7 fn6_y
            clear e
            refine oP_ite (fun hb => ?_) (fun hb => ?_)
            · refine oP_dl ?_
              refine oP_let fun p8 e_p8 => ?_
              refine oP_let fun g9 e => ?_
              have f_g9 : fY q g0 g9 := by rw [e, e_p8]; exact fY_tr f_g8 fn10_y
              clear e
              refine oP_ite (fun hb => ?_) (fun hb => ?_)
              · refine oP_let fun p9 e_p9 => ?_
                refine oP_let fun g10 e => ?_
                have f_g10 : fY q g0 g10 := by rw [e, e_p9]; exact fY_tr f_g9 fn17_y
                clear e
                refine oP_ite (fun hb => ?_) (fun hb => ?_)
                · refine oP_dl ?_
                  refine oP_let fun g11 e => ?_
                  have f_g11 : fY q g0 g11 := by rw [e]; exact fY_15 f_g10 (by decide)
                  clear e
                  refine oP_let fun p11 e_p11 => ?_
                  refine oP_let fun g12 e => ?_
                  have f_g12 : fY q g0 g12 := by rw [e, e_p11]; exact fY_tr f_g11 fn25_y
                  clear e
                  refine oP_let fun g13 e => ?_
                  have f_g13 : fY q g0 g13 := by rw [e]; exact fY_15 f_g12 (by decide)
                  clear e
                  refine oP_let fun g14 e => ?_
                  have f_g14 : fY q g0 g14 := by rw [e]; exact fY_15 f_g13 (by decide)
                  clear e
                  exact f_g14
                · exact f_g10
              · refine oP_let fun p9 e_p9 => ?_
                refine oP_let fun g10 e => ?_
                have f_g10 : fY q g0 g10 := by rw [e, e_p9]; exact fY_tr f_g9 fn8_y
                clear e
                exact f_g10
            · refine oP_let fun p8 e_p8 => ?_
              refine oP_let fun g9 e => ?_
              have f_g9 : fY q g0 g9 := by rw [e, e_p8]; exact fY_tr f_g8 fn10_y
              clear e
              refine oP_let fun p9 e_p9 => ?_
              refine oP_let fun g10 e => ?_
              have f_g10 : fY q g0 g10 := by rw [e, e_p9]; exact fY_tr f_g9 fn8_y
              clear e
              exact f_g10
          · refine oP_let fun p5 e_p5 => ?_
            refine oP_let fun g6 e => ?_
            have f_g6 : fY q g0 g6 := by rw [e, e_p5]; exact fY_tr f_g5 fn13_y
            clear e
            refine oP_ite (fun hb => ?_) (fun hb => ?_)
            · refine oP_let fun g7 e => ?_
              have f_g7 : fY q g0 g7 := by rw [e]; exact fY_15 f_g6 (by decide)
              clear e
              refine oP_let fun p7 e_p7 => ?_
              refine oP_let fun g8 e => ?_
              have f_g8 : fY q g0 g8 := by rw [e, e_p7]; exact fY_tr f_g7 fn7_y
              clear e
              refine oP_dl ?_
              refine oP_let fun p8 e_p8 => ?_
              refine oP_let fun g9 e => ?_
              have f_g9 : fY q g0 g9 := by rw [e, e_p8]; exact fY_tr f_g8 fn6_y
              clear e
              refine oP_ite (fun hb => ?_) (fun hb => ?_)
              · refine oP_dl ?_
                refine oP_let fun p9 e_p9 => ?_
                refine oP_let fun g10 e => ?_
                have f_g10 : fY q g0 g10 := by rw [e, e_p9]; exact fY_tr f_g9 fn10_y
                clear e
                refine oP_ite (fun hb => ?_) (fun hb => ?_)
                · refine oP_let fun p10 e_p10 => ?_
                  refine oP_let fun g11 e => ?_
                  have f_g11 : fY q g0 g11 := by rw [e, e_p10]; exact fY_tr f_g10 fn17_y
                  clear e
                  refine oP_ite (fun hb => ?_) (fun hb => ?_)
                  · refine oP_dl ?_
                    refine oP_let fun g12 e => ?_
                    have f_g12 : fY q g0 g12 := by rw [e]; exact fY_15 f_g11 (by decide)
                    clear e
                    refine oP_let fun p12 e_p12 => ?_
                    refine oP_let fun g13 e => ?_
                    have f_g13 : fY q g0 g13 := by rw [e, e_p12]; exact fY_tr f_g12 fn25_y
                    clear e
                    refine oP_let fun g14 e => ?_
                    have f_g14 : fY q g0 g14 := by rw [e]; exact fY_15 f_g13 (by decide)
                    clear e
                    refine oP_let fun g15 e => ?_
                    have f_g15 : fY q g0 g15 := by rw [e]; exact fY_15 f_g14 (by decide)
                    clear e
                    exact f_g15
                  · exact f_g11
                · refine oP_let fun p10 e_p10 => ?_
                  refine oP_let fun g11 e => ?_
                  have f_g11 : fY q g0 g11 := by rw [e, e_p10]; exact fY_tr f_g10 fn8_y
                  clear e
                  exact f_g11
              · refine oP_let fun p9 e_p9 => ?_
                refine oP_let fun g10 e => ?_
                have f_g10 : fY q g0 g10 := by rw [e, e_p9]; exact fY_tr f_g9 fn10_y
                clear e
                refine oP_let fun p10 e_p10 => ?_
                refine oP_let fun g11 e => ?_
                have f_g11 : fY q g0 g11 := by rw [e, e_p10]; exact fY_tr f_g10 fn8_y
                clear e
                exact f_g11
            · refine oP_let fun g7 e => ?_
              have f_g7 : fY q g0 g7 := by rw [e]; exact fY_15 f_g6 (by decide)
              clear e
              refine oP_let fun p7 e_p7 => ?_
              refine oP_let fun g8 e => ?_
              have f_g8 : fY q g0 g8 := by rw [e, e_p7]; exact fY_tr f_g7 fn8_y
              clear e
              exact f_g8
    · exact f_g2
  · refine oP_let fun p0 e_p0 => ?_
    refine oP_let fun g1 e => ?_
    have f_g1 : fY q g0 g1 := by rw [e, e_p0]; exact fY_tr f_g0 fn8_y
    clear e
    exact f_g1
theorem fn34_y {x : List Int} {g0 : rHp} (h0 : 0 ≤ x.getD 0 0) : fY (qQ0 g0) g0 (fn34 x g0).2.2 := by
  have f_g0 : fY (qQ0 g0) g0 g0 := fY_refl
  show oP (fun h => fY (qQ0 g0) g0 h) (fn34 x g0)
  unfold fn34
  refine oP_dl ?_
  refine oP_dl ?_
  refine oP_dl ?_
  refine oP_let fun p0 e_p0 => ?_
  refine oP_let fun g1 e => ?_
  have f_g1 : fY (qQ0 g0) g0 g1 := by rw [e, e_p0]; exact fY_tr f_g0 fn7_y
  clear e
  refine oP_dl ?_
  refine oP_let fun p1 e_p1 => ?_
  refine oP_let fun g2 e => ?_
  have f_g2 : fY (qQ0 g0) g0 g2 := by rw [e, e_p1]; exact fY_tr f_g1 fn20_y
  clear e
  refine oP_ite (fun hb => ?_) (fun hb => ?_)
  · refine oP_dl ?_
    refine oP_dl ?_
    refine oP_ite (fun hb => ?_) (fun hb => ?_)
    · refine oP_let fun p2 e_p2 => ?_
      refine oP_let fun g3 e => ?_
      have f_g3 : fY (qQ0 g0) g0 g3 := by rw [e, e_p2]; exact fY_tr f_g2 fn33_y
      clear e
      refine oP_let fun g4 e => ?_
      have f_g4 : fY (qQ0 g0) g0 g4 := by rw [e]; exact fY_8 f_g3 (by decide) (by omega)
      clear e
      refine oP_let fun p4 e_p4 => ?_
      refine oP_let fun g5 e => ?_
      have f_g5 : fY (qQ0 g0) g0 g5 := by rw [e, e_p4]; exact fY_tr f_g4 fn33_y
      clear e
      refine oP_let fun g6 e => ?_
      have f_g6 : fY (qQ0 g0) g0 g6 := by rw [e]; exact fY_8 f_g5 (by decide) (by omega)
      clear e
      exact f_g6
    · refine oP_let fun p2 e_p2 => ?_
      refine oP_let fun g3 e => ?_
      have f_g3 : fY (qQ0 g0) g0 g3 := by rw [e, e_p2]; exact fY_tr f_g2 fn19_y
      clear e
      refine oP_ite (fun hb => ?_) (fun hb => ?_)
      · refine oP_let fun p3 e_p3 => ?_
        refine oP_let fun g4 e => ?_
        have f_g4 : fY (qQ0 g0) g0 g4 := by rw [e, e_p3]; exact fY_tr f_g3 fn33_y
        clear e
        refine oP_let fun g5 e => ?_
        have f_g5 : fY (qQ0 g0) g0 g5 := by rw [e]; exact fY_8 f_g4 (by decide) (by omega)
        clear e
        refine oP_let fun p5 e_p5 => ?_
        refine oP_let fun g6 e => ?_
        have f_g6 : fY (qQ0 g0) g0 g6 := by rw [e, e_p5]; exact fY_tr f_g5 fn33_y
        clear e
        refine oP_let fun g7 e => ?_
        have f_g7 : fY (qQ0 g0) g0 g7 := by rw [e]; exact fY_8 f_g6 (by decide) (by omega)
        clear e
        exact f_g7
      · refine oP_let fun p3 e_p3 => ?_
        refine oP_let fun g4 e => ?_
        have f_g4 : fY (qQ0 g0) g0 g4 := by rw [e, e_p3]; exact fY_tr f_g3 fn8_y
        clear e
        exact f_g4
  · exact f_g2
theorem fn41_y {x : List Int} {g0 : rHp} : fY (qQ0 g0) g0 (fn41 x g0).2.2 := by
  have f_g0 : fY (qQ0 g0) g0 g0 := fY_refl
  refine zGoo_P (I := fun s => fY (qQ0 g0) g0 s.2.2 ∧ 0 ≤ s.2.1.getD 3 0 ∧ s.2.1.getD 3 0 ≤ 4) fY_zero (fun s hs => ?_) ?_
  · unfold en41
    refine oS_ite (fun hb => ?_) (fun hb => ?_)
    · refine oS_let fun g1 e => ?_
      have f_g1 : fY (qQ0 g0) g0 g1 := by rw [e]; exact hs.1
      clear e
      refine oS_dl ?_
      refine oS_dl ?_
      refine oS_dl ?_
      refine oS_dl ?_
      refine oS_dl ?_
      refine oS_dl ?_
      refine oS_dl ?_
      refine oS_dl ?_
      refine oS_dl ?_
      refine oS_dl ?_
      refine oS_dl ?_
      refine oS_ite (fun hb => ?_) (fun hb => ?_)
      · refine oS_let fun p1 e_p1 => ?_
        refine oS_let fun g2 e => ?_
        have f_g2 : fY (qQ0 g0) g0 g2 := by rw [e, e_p1]; exact fY_tr f_g1 fn24_y
        clear e
        refine oS_ite (fun hb => ?_) (fun hb => ?_)
        · refine oS_let fun p2 e_p2 => ?_
          refine oS_let fun g3 e => ?_
          have f_g3 : fY (qQ0 g0) g0 g3 := by rw [e, e_p2]; exact fY_tr f_g2 fn21_y
          clear e
          refine oS_dl ?_
          refine oS_ite (fun hb => ?_) (fun hb => ?_)
          · refine oS_ite (fun hb => ?_) (fun hb => ?_)
            · refine oS_let fun g4 e => ?_
              have f_g4 : fY (qQ0 g0) g0 g4 := by rw [e]; exact fY_7 f_g3 (by decide) (Int.le_refl _)
              clear e
              refine oS_let fun g5 e => ?_
              have f_g5 : fY (qQ0 g0) g0 g5 := by rw [e]; exact fY_7 f_g4 (by decide) (Int.le_refl _)
              clear e
              refine oS_let fun g6 e => ?_
              have f_g6 : fY (qQ0 g0) g0 g6 := by rw [e]; exact fY_7 f_g5 (by decide) (Int.le_refl _)
              clear e
              refine oS_dl ?_
              refine oS_let fun g7 e => ?_
              have f_g7 : fY (qQ0 g0) g0 g7 := by rw [e]; exact fY_15 f_g6 (by decide)
              clear e
              exact f_g7
            · refine oS_let fun g4 e => ?_
              have f_g4 : fY (qQ0 g0) g0 g4 := by rw [e]; exact fY_7 f_g3 (by decide) (Int.le_refl _)
              clear e
              refine oS_let fun g5 e => ?_
              have f_g5 : fY (qQ0 g0) g0 g5 := by rw [e]; exact fY_7 f_g4 (by decide) (Int.le_refl _)
              clear e
              refine oS_let fun g6 e => ?_
              have f_g6 : fY (qQ0 g0) g0 g6 := by rw [e]; exact fY_7 f_g5 (by decide) (Int.le_refl _)
              clear e
              exact f_g6
          · refine oS_ite (fun hb => ?_) (fun hb => ?_)
            · refine oS_let fun p3 e_p3 => ?_
              refine oS_let fun g4 e => ?_
              have f_g4 : fY (qQ0 g0) g0 g4 := by rw [e, e_p3]; exact fY_tr f_g3 fn39_y
              clear e
              refine oS_ite (fun hb => ?_) (fun hb => ?_)
              · refine oS_let fun g5 e => ?_
                have f_g5 : fY (qQ0 g0) g0 g5 := by rw [e]; exact fY_7 f_g4 (by decide) (Int.le_refl _)
                clear e
                refine oS_let fun g6 e => ?_
                have f_g6 : fY (qQ0 g0) g0 g6 := by rw [e]; exact fY_7 f_g5 (by decide) (Int.le_refl _)
                clear e
                refine oS_let fun g7 e => ?_
                have f_g7 : fY (qQ0 g0) g0 g7 := by rw [e]; exact fY_7 f_g6 (by decide) (Int.le_refl _)
                clear e
                refine oS_dl ?_
                refine oS_let fun g8 e => ?_
                have f_g8 : fY (qQ0 g0) g0 g8 := by rw [e]; exact fY_15 f_g7 (by decide)
                clear e
                exact f_g8
              · refine oS_let fun g5 e => ?_
                have f_g5 : fY (qQ0 g0) g0 g5 := by rw [e]; exact fY_7 f_g4 (by decide) (Int.le_refl _)
                clear e
                refine oS_let fun g6 e => ?_
                have f_g6 : fY (qQ0 g0) g0 g6 := by rw [e]; exact fY_7 f_g5 (by decide) (Int.le_refl _)
                clear e
                refine oS_let fun g7 e => ?_
                have f_g7 : fY (qQ0 g0) g0 g7 := by rw [e]; exact fY_7 f_g6 (by decide) (Int.le_refl _)
                clear e
                exact f_g7
            · refine oS_let fun p3 e_p3 => ?_
              refine oS_let fun g4 e => ?_
              have f_g4 : fY (qQ0 g0) g0 g4 := by rw [e, e_p3]; exact fY_tr f_g3 fn8_y
              clear e
              exact f_g4
        · exact f_g2
      · refine oS_let fun p1 e_p1 => ?_
        refine oS_let fun g2 e => ?_
        have f_g2 : fY (qQ0 g0) g0 g2 := by rw [e, e_p1]; exact fY_tr f_g1 fn7_y
        clear e
        refine oS_dl ?_
        refine oS_ite (fun hb => ?_) (fun hb => ?_)
        · refine oS_let fun p2 e_p2 => ?_
          refine oS_let fun g3 e => ?_
          have f_g3 : fY (qQ0 g0) g0 g3 := by rw [e, e_p2]; exact fY_tr f_g2 fn20_y
          clear e
          refine oS_ite (fun hb => ?_) (fun hb => ?_)
          · refine oS_dl ?_
            refine oS_dl ?_
            refine oS_let fun g4 e => ?_
            have f_g4 : fY (qQ0 g0) g0 g4 := by rw [e]; exact fY_8 f_g3 (by decide) (by have z := hs.2.1; omega)
            clear e
            refine oS_let fun g5 e => ?_
            have f_g5 : fY (qQ0 g0) g0 g5 := by rw [e]; exact fY_8 f_g4 (by decide) (by have z := hs.2.1; omega)
            clear e
            refine oS_ite (fun hb => ?_) (fun hb => ?_)
            · refine oS_ite (fun hb => ?_) (fun hb => ?_)
              · refine oS_let fun p5 e_p5 => ?_
                refine oS_let fun g6 e => ?_
                have f_g6 : fY (qQ0 g0) g0 g6 := by rw [e, e_p5]; exact fY_tr f_g5 fn7_y
                clear e
                refine oS_dl ?_
                refine oS_let fun p6 e_p6 => ?_
                refine oS_let fun g7 e => ?_
                have f_g7 : fY (qQ0 g0) g0 g7 := by rw [e, e_p6]; exact fY_tr f_g6 fn6_y
                clear e
                refine oS_ite (fun hb => ?_) (fun hb => ?_)
                · refine oS_dl ?_
                  refine oS_ite (fun hb => ?_) (fun hb => ?_)
                  · exact ⟨f_g7, by first | (have z := hs.2; simp only [List.getD_cons_zero, List.getD_cons_succ]; omega) | exact ⟨Int.le_refl 0, (show (0 : Int) ≤ 4 by decide)⟩⟩
                  · refine oS_let fun g8 e => ?_
                    have f_g8 : fY (qQ0 g0) g0 g8 := by rw [e]; exact fY_15 f_g7 (by decide)
                    clear e
                    exact ⟨f_g8, by first | (have z := hs.2; simp only [List.getD_cons_zero, List.getD_cons_succ]; omega) | exact ⟨Int.le_refl 0, (show (0 : Int) ≤ 4 by decide)⟩⟩
                · exact ⟨f_g7, by first | (have z := hs.2; simp only [List.getD_cons_zero, List.getD_cons_succ]; omega) | exact ⟨Int.le_refl 0, (show (0 : Int) ≤ 4 by decide)⟩⟩
              · refine oS_dl ?_
                refine oS_dl ?_
                refine oS_dl ?_
                refine oS_let fun p5 e_p5 => ?_
                refine oS_let fun g6 e => ?_
                have f_g6 : fY (qQ0 g0) g0 g6 := by rw [e, e_p5]; exact fY_tr f_g5 fn7_y
                clear e
                refine oS_dl ?_
                refine oS_let fun p6 e_p6 => ?_
                refine oS_let fun g7 e => ?_
                have f_g7 : fY (qQ0 g0) g0 g7 := by rw [e, e_p6]; exact fY_tr f_g6 fn6_y
                clear e
                refine oS_ite (fun hb => ?_) (fun hb => ?_)
                · refine oS_dl ?_
                  refine oS_ite (fun hb => ?_) (fun hb => ?_)
                  · exact ⟨f_g7, by first | (have z := hs.2; simp only [List.getD_cons_zero, List.getD_cons_succ]; omega) | exact ⟨Int.le_refl 0, (show (0 : Int) ≤ 4 by decide)⟩⟩
                  · refine oS_let fun g8 e => ?_
                    have f_g8 : fY (qQ0 g0) g0 g8 := by rw [e]; exact fY_15 f_g7 (by decide)
                    clear e
                    exact ⟨f_g8, by first | (have z := hs.2; simp only [List.getD_cons_zero, List.getD_cons_succ]; omega) | exact ⟨Int.le_refl 0, (show (0 : Int) ≤ 4 by decide)⟩⟩
                · exact ⟨f_g7, by first | (have z := hs.2; simp only [List.getD_cons_zero, List.getD_cons_succ]; omega) | exact ⟨Int.le_refl 0, (show (0 : Int) ≤ 4 by decide)⟩⟩
            · refine oS_ite (fun hb => ?_) (fun hb => ?_)
              · refine oS_dl ?_
                refine oS_dl ?_
                refine oS_dl ?_
                refine oS_let fun p5 e_p5 => ?_
                refine oS_let fun g6 e => ?_
                have f_g6 : fY (qQ0 g0) g0 g6 := by rw [e, e_p5]; exact fY_tr f_g5 fn7_y
                clear e
                refine oS_dl ?_
                refine oS_let fun p6 e_p6 => ?_
                refine oS_let fun g7 e => ?_
                have f_g7 : fY (qQ0 g0) g0 g7 := by rw [e, e_p6]; exact fY_tr f_g6 fn6_y
                clear e
                refine oS_ite (fun hb => ?_) (fun hb => ?_)
                · refine oS_dl ?_
                  refine oS_ite (fun hb => ?_) (fun hb => ?_)
                  · exact ⟨f_g7, by first | (have z := hs.2; simp only [List.getD_cons_zero, List.getD_cons_succ]; omega) | exact ⟨Int.le_refl 0, (show (0 : Int) ≤ 4 by decide)⟩⟩
                  · refine oS_let fun g8 e => ?_
                    have f_g8 : fY (qQ0 g0) g0 g8 := by rw [e]; exact fY_15 f_g7 (by decide)
                    clear e
                    exact ⟨f_g8, by first | (have z := hs.2; simp only [List.getD_cons_zero, List.getD_cons_succ]; omega) | exact ⟨Int.le_refl 0, (show (0 : Int) ≤ 4 by decide)⟩⟩
                · exact ⟨f_g7, by first | (have z := hs.2; simp only [List.getD_cons_zero, List.getD_cons_succ]; omega) | exact ⟨Int.le_refl 0, (show (0 : Int) ≤ 4 by decide)⟩⟩
              · refine oS_let fun p5 e_p5 => ?_
                refine oS_let fun g6 e => ?_
                have f_g6 : fY (qQ0 g0) g0 g6 := by rw [e, e_p5]; exact fY_tr f_g5 fn25_y
                clear e
                refine oS_dl ?_
                refine oS_dl ?_
                refine oS_let fun p6 e_p6 => ?_
                refine oS_let fun g7 e => ?_
                have f_g7 : fY (qQ0 g0) g0 g7 := by rw [e, e_p6]; exact fY_tr f_g6 fn7_y
                clear e
                refine oS_dl ?_
                refine oS_let fun p7 e_p7 => ?_
                refine oS_let fun g8 e => ?_
                have f_g8 : fY (qQ0 g0) g0 g8 := by rw [e, e_p7]; exact fY_tr f_g7 fn6_y
                clear e
                refine oS_ite (fun hb => ?_) (fun hb => ?_)
                · refine oS_dl ?_
                  refine oS_ite (fun hb => ?_) (fun hb => ?_)
                  · exact ⟨f_g8, by first | (have z := hs.2; simp only [List.getD_cons_zero, List.getD_cons_succ]; omega) | exact ⟨Int.le_refl 0, (show (0 : Int) ≤ 4 by decide)⟩⟩
                  · refine oS_let fun g9 e => ?_
                    have f_g9 : fY (qQ0 g0) g0 g9 := by rw [e]; exact fY_15 f_g8 (by decide)
                    clear e
                    exact ⟨f_g9, by first | (have z := hs.2; simp only [List.getD_cons_zero, List.getD_cons_succ]; omega) | exact ⟨Int.le_refl 0, (show (0 : Int) ≤ 4 by decide)⟩⟩
                · exact ⟨f_g8, by first | (have z := hs.2; simp only [List.getD_cons_zero, List.getD_cons_succ]; omega) | exact ⟨Int.le_refl 0, (show (0 : Int) ≤ 4 by decide)⟩⟩
          · exact f_g3
        · refine oS_let fun p2 e_p2 => ?_
          refine oS_let fun g3 e => ?_
          have f_g3 : fY (qQ0 g0) g0 g3 := by rw [e, e_p2]; exact fY_tr f_g2 fn8_y
          clear e
          exact f_g3
    · exact f_g0
  · unfold dn41
    refine oS_dl ?_
    refine oS_dl ?_
    refine oS_let fun p0 e_p0 => ?_
    refine oS_let fun g1 e => ?_
    have f_g1 : fY (qQ0 g0) g0 g1 := by rw [e, e_p0]; exact fY_tr f_g0 fn33_y
    clear e
    refine oS_let fun g2 e => ?_
    have f_g2 : fY (qQ0 g0) g0 g2 := by rw [e]; exact fY_15 f_g1 (by decide)
    clear e
    exact ⟨f_g2, by first | (have z := hs.2; simp only [List.getD_cons_zero, List.getD_cons_succ]; omega) | exact ⟨Int.le_refl 0, (show (0 : Int) ≤ 4 by decide)⟩⟩
theorem fn36_y {x : List Int} {g0 : rHp} : fY (qQ0 g0) g0 (fn36 x g0).2.2 := by
  have f_g0 : fY (qQ0 g0) g0 g0 := fY_refl
  refine zGoo_P (I := fun s => fY (qQ0 g0) g0 s.2.2 ∧ 0 ≤ s.2.1.getD 4 0 ∧ s.2.1.getD 4 0 ≤ 4) fY_zero (fun s hs => ?_) ?_
  · unfold en36
    refine oS_ite (fun hb => ?_) (fun hb => ?_)
    · refine oS_let fun g1 e => ?_
      have f_g1 : fY (qQ0 g0) g0 g1 := by rw [e]; exact hs.1
      clear e
      refine oS_dl ?_
      refine oS_dl ?_
      refine oS_dl ?_
      refine oS_dl ?_
      refine oS_dl ?_
      refine oS_dl ?_
      refine oS_dl ?_
      refine oS_dl ?_
      refine oS_dl ?_
      refine oS_dl ?_
      refine oS_dl ?_
      refine oS_dl ?_
      refine oS_ite (fun hb => ?_) (fun hb => ?_)
      · refine oS_let fun p1 e_p1 => ?_
        refine oS_let fun g2 e => ?_
        have f_g2 : fY (qQ0 g0) g0 g2 := by rw [e, e_p1]; exact fY_tr f_g1 fn24_y
        clear e
        refine oS_ite (fun hb => ?_) (fun hb => ?_)
        · refine oS_let fun p2 e_p2 => ?_
          refine oS_let fun g3 e => ?_
          have f_g3 : fY (qQ0 g0) g0 g3 := by rw [e, e_p2]; exact fY_tr f_g2 fn21_y
          clear e
          refine oS_dl ?_
          refine oS_ite (fun hb => ?_) (fun hb => ?_)
          · refine oS_ite (fun hb => ?_) (fun hb => ?_)
            · refine oS_let fun g4 e => ?_
              have f_g4 : fY (qQ0 g0) g0 g4 := by rw [e]; exact fY_7 f_g3 (by decide) (Int.le_refl _)
              clear e
              refine oS_let fun g5 e => ?_
              have f_g5 : fY (qQ0 g0) g0 g5 := by rw [e]; exact fY_7 f_g4 (by decide) (Int.le_refl _)
              clear e
              refine oS_let fun g6 e => ?_
              have f_g6 : fY (qQ0 g0) g0 g6 := by rw [e]; exact fY_7 f_g5 (by decide) (Int.le_refl _)
              clear e
              refine oS_dl ?_
              refine oS_let fun g7 e => ?_
              have f_g7 : fY (qQ0 g0) g0 g7 := by rw [e]; exact fY_15 f_g6 (by decide)
              clear e
              exact f_g7
            · refine oS_let fun g4 e => ?_
              have f_g4 : fY (qQ0 g0) g0 g4 := by rw [e]; exact fY_7 f_g3 (by decide) (Int.le_refl _)
              clear e
              refine oS_let fun g5 e => ?_
              have f_g5 : fY (qQ0 g0) g0 g5 := by rw [e]; exact fY_7 f_g4 (by decide) (Int.le_refl _)
              clear e
              refine oS_let fun g6 e => ?_
              have f_g6 : fY (qQ0 g0) g0 g6 := by rw [e]; exact fY_7 f_g5 (by decide) (Int.le_refl _)
              clear e
              exact f_g6
          · refine oS_ite (fun hb => ?_) (fun hb => ?_)
            · refine oS_let fun p3 e_p3 => ?_
              refine oS_let fun g4 e => ?_
              have f_g4 : fY (qQ0 g0) g0 g4 := by rw [e, e_p3]; exact fY_tr f_g3 fn8_y
              clear e
              exact f_g4
            · refine oS_ite (fun hb => ?_) (fun hb => ?_)
              · refine oS_let fun p3 e_p3 => ?_
                refine oS_let fun g4 e => ?_
                have f_g4 : fY (qQ0 g0) g0 g4 := by rw [e, e_p3]; exact fY_tr f_g3 fn22_y
                clear e
                refine oS_ite (fun hb => ?_) (fun hb => ?_)
                · refine oS_let fun g5 e => ?_
                  have f_g5 : fY (qQ0 g0) g0 g5 := by rw [e]; exact fY_7 f_g4 (by decide) (Int.le_refl _)
                  clear e
                  refine oS_let fun g6 e => ?_
                  have f_g6 : fY (qQ0 g0) g0 g6 := by rw [e]; exact fY_7 f_g5 (by decide) (Int.le_refl _)
                  clear e
                  refine oS_let fun g7 e => ?_
                  have f_g7 : fY (qQ0 g0) g0 g7 := by rw [e]; exact fY_7 f_g6 (by decide) (Int.le_refl _)
                  clear e
                  refine oS_dl ?_
                  refine oS_let fun g8 e => ?_
                  have f_g8 : fY (qQ0 g0) g0 g8 := by rw [e]; exact fY_15 f_g7 (by decide)
                  clear e
                  exact f_g8
                · refine oS_let fun g5 e => ?_
                  have f_g5 : fY (qQ0 g0) g0 g5 := by rw [e]; exact fY_7 f_g4 (by decide) (Int.le_refl _)
                  clear e
                  refine oS_let fun g6 e => ?_
                  have f_g6 : fY (qQ0 g0) g0 g6 := by rw [e]; exact fY_7 f_g5 (by decide) (Int.le_refl _)
                  clear e
                  refine oS_let fun g7 e => ?_
                  have f_g7 : fY (qQ0 g0) g0 g7 := by rw [e]; exact fY_7 f_g6 (by decide) (Int.le_refl _)
                  clear e
                  exact f_g7
              · refine oS_let fun p3 e_p3 => ?_
                refine oS_let fun g4 e => ?_
                have f_g4 : fY (qQ0 g0) g0 g4 := by rw [e, e_p3]; exact fY_tr f_g3 fn8_y
                clear e
                exact f_g4
        · exact f_g2
      · refine oS_let fun p1 e_p1 => ?_
        refine oS_let fun g2 e => ?_
        have f_g2 : fY (qQ0 g0) g0 g2 := by rw [e, e_p1]; exact fY_tr f_g1 fn7_y
        clear e
        refine oS_dl ?_
        refine oS_ite (fun hb => ?_) (fun hb => ?_)
        · refine oS_let fun p2 e_p2 => ?_
          refine oS_let fun g3 e => ?_
          have f_g3 : fY (qQ0 g0) g0 g3 := by rw [e, e_p2]; exact fY_tr f_g2 fn20_y
          clear e
          refine oS_ite (fun hb => ?_) (fun hb => ?_)
          · refine oS_dl ?_
            refine oS_dl ?_
            refine oS_let fun g4 e => ?_
            have f_g4 : fY (qQ0 g0) g0 g4 := by rw [e]; exact fY_8 f_g3 (by decide) (by have z := hs.2.1; omega)
            clear e
            refine oS_let fun g5 e => ?_
            have f_g5 : fY (qQ0 g0) g0 g5 := by rw [e]; exact fY_8 f_g4 (by decide) (by have z := hs.2.1; omega)
            clear e
            refine oS_ite (fun hb => ?_) (fun hb => ?_)
            · refine oS_ite (fun hb => ?_) (fun hb => ?_)
              · refine oS_let fun p5 e_p5 => ?_
                refine oS_let fun g6 e => ?_
                have f_g6 : fY (qQ0 g0) g0 g6 := by rw [e, e_p5]; exact fY_tr f_g5 fn7_y
                clear e
                refine oS_dl ?_
                refine oS_let fun p6 e_p6 => ?_
                refine oS_let fun g7 e => ?_
                have f_g7 : fY (qQ0 g0) g0 g7 := by rw [e, e_p6]; exact fY_tr f_g6 fn6_y
                clear e
                refine oS_ite (fun hb => ?_) (fun hb => ?_)
                · refine oS_dl ?_
                  refine oS_ite (fun hb => ?_) (fun hb => ?_)
                  · exact ⟨f_g7, by first | (have z := hs.2; simp only [List.getD_cons_zero, List.getD_cons_succ]; omega) | exact ⟨Int.le_refl 0, (show (0 : Int) ≤ 4 by decide)⟩⟩
                  · refine oS_let fun g8 e => ?_
                    have f_g8 : fY (qQ0 g0) g0 g8 := by rw [e]; exact fY_15 f_g7 (by decide)
                    clear e
                    exact ⟨f_g8, by first | (have z := hs.2; simp only [List.getD_cons_zero, List.getD_cons_succ]; omega) | exact ⟨Int.le_refl 0, (show (0 : Int) ≤ 4 by decide)⟩⟩
                · exact ⟨f_g7, by first | (have z := hs.2; simp only [List.getD_cons_zero, List.getD_cons_succ]; omega) | exact ⟨Int.le_refl 0, (show (0 : Int) ≤ 4 by decide)⟩⟩
              · refine oS_dl ?_
                refine oS_dl ?_
                refine oS_dl ?_
                refine oS_let fun p5 e_p5 => ?_
                refine oS_let fun g6 e => ?_
                have f_g6 : fY (qQ0 g0) g0 g6 := by rw [e, e_p5]; exact fY_tr f_g5 fn7_y
                clear e
                refine oS_dl ?_
                refine oS_let fun p6 e_p6 => ?_
                refine oS_let fun g7 e => ?_
                have f_g7 : fY (qQ0 g0) g0 g7 := by rw [e, e_p6]; exact fY_tr f_g6 fn6_y
                clear e
                refine oS_ite (fun hb => ?_) (fun hb => ?_)
                · refine oS_dl ?_
                  refine oS_ite (fun hb => ?_) (fun hb => ?_)
                  · exact ⟨f_g7, by first | (have z := hs.2; simp only [List.getD_cons_zero, List.getD_cons_succ]; omega) | exact ⟨Int.le_refl 0, (show (0 : Int) ≤ 4 by decide)⟩⟩
                  · refine oS_let fun g8 e => ?_
                    have f_g8 : fY (qQ0 g0) g0 g8 := by rw [e]; exact fY_15 f_g7 (by decide)
                    clear e
                    exact ⟨f_g8, by first | (have z := hs.2; simp only [List.getD_cons_zero, List.getD_cons_succ]; omega) | exact ⟨Int.le_refl 0, (show (0 : Int) ≤ 4 by decide)⟩⟩
                · exact ⟨f_g7, by first | (have z := hs.2; simp only [List.getD_cons_zero, List.getD_cons_succ]; omega) | exact ⟨Int.le_refl 0, (show (0 : Int) ≤ 4 by decide)⟩⟩
            · refine oS_ite (fun hb => ?_) (fun hb => ?_)
              · refine oS_dl ?_
                refine oS_dl ?_
                refine oS_dl ?_
                refine oS_let fun p5 e_p5 => ?_
                refine oS_let fun g6 e => ?_
                have f_g6 : fY (qQ0 g0) g0 g6 := by rw [e, e_p5]; exact fY_tr f_g5 fn7_y
                clear e
                refine oS_dl ?_
                refine oS_let fun p6 e_p6 => ?_
                refine oS_let fun g7 e => ?_
                have f_g7 : fY (qQ0 g0) g0 g7 := by rw [e, e_p6]; exact fY_tr f_g6 fn6_y
                clear e
                refine oS_ite (fun hb => ?_) (fun hb => ?_)
                · refine oS_dl ?_
                  refine oS_ite (fun hb => ?_) (fun hb => ?_)
                  · exact ⟨f_g7, by first | (have z := hs.2; simp only [List.getD_cons_zero, List.getD_cons_succ]; omega) | exact ⟨Int.le_refl 0, (show (0 : Int) ≤ 4 by decide)⟩⟩
                  · refine oS_let fun g8 e => ?_
                    have f_g8 : fY (qQ0 g0) g0 g8 := by rw [e]; exact fY_15 f_g7 (by decide)
                    clear e
                    exact ⟨f_g8, by first | (have z := hs.2; simp only [List.getD_cons_zero, List.getD_cons_succ]; omega) | exact ⟨Int.le_refl 0, (show (0 : Int) ≤ 4 by decide)⟩⟩
                · exact ⟨f_g7, by first | (have z := hs.2; simp only [List.getD_cons_zero, List.getD_cons_succ]; omega) | exact ⟨Int.le_refl 0, (show (0 : Int) ≤ 4 by decide)⟩⟩
              · refine oS_let fun p5 e_p5 => ?_
                refine oS_let fun g6 e => ?_
                have f_g6 : fY (qQ0 g0) g0 g6 := by rw [e, e_p5]; exact fY_tr f_g5 fn25_y
                clear e
                refine oS_dl ?_
                refine oS_dl ?_
                refine oS_let fun p6 e_p6 => ?_
                refine oS_let fun g7 e => ?_
                have f_g7 : fY (qQ0 g0) g0 g7 := by rw [e, e_p6]; exact fY_tr f_g6 fn7_y
                clear e
                refine oS_dl ?_
                refine oS_let fun p7 e_p7 => ?_
                refine oS_let fun g8 e => ?_
                have f_g8 : fY (qQ0 g0) g0 g8 := by rw [e, e_p7]; exact fY_tr f_g7 fn6_y
                clear e
                refine oS_ite (fun hb => ?_) (fun hb => ?_)
                · refine oS_dl ?_
                  refine oS_ite (fun hb => ?_) (fun hb => ?_)
                  · exact ⟨f_g8, by first | (have z := hs.2; simp only [List.getD_cons_zero, List.getD_cons_succ]; omega) | exact ⟨Int.le_refl 0, (show (0 : Int) ≤ 4 by decide)⟩⟩
                  · refine oS_let fun g9 e => ?_
                    have f_g9 : fY (qQ0 g0) g0 g9 := by rw [e]; exact fY_15 f_g8 (by decide)
                    clear e
                    exact ⟨f_g9, by first | (have z := hs.2; simp only [List.getD_cons_zero, List.getD_cons_succ]; omega) | exact ⟨Int.le_refl 0, (show (0 : Int) ≤ 4 by decide)⟩⟩
                · exact ⟨f_g8, by first | (have z := hs.2; simp only [List.getD_cons_zero, List.getD_cons_succ]; omega) | exact ⟨Int.le_refl 0, (show (0 : Int) ≤ 4 by decide)⟩⟩
          · exact f_g3
        · refine oS_let fun p2 e_p2 => ?_
          refine oS_let fun g3 e => ?_
          have f_g3 : fY (qQ0 g0) g0 g3 := by rw [e, e_p2]; exact fY_tr f_g2 fn8_y
          clear e
          exact f_g3
    · exact f_g0
  · unfold dn36
    refine oS_dl ?_
    refine oS_dl ?_
    refine oS_dl ?_
    refine oS_let fun p0 e_p0 => ?_
    refine oS_let fun g1 e => ?_
    have f_g1 : fY (qQ0 g0) g0 g1 := by rw [e, e_p0]; exact fY_tr f_g0 fn33_y
    clear e
    refine oS_let fun g2 e => ?_
    have f_g2 : fY (qQ0 g0) g0 g2 := by rw [e]; exact fY_15 f_g1 (by decide)
    clear e
    exact ⟨f_g2, by first | (have z := hs.2; simp only [List.getD_cons_zero, List.getD_cons_succ]; omega) | exact ⟨Int.le_refl 0, (show (0 : Int) ≤ 4 by decide)⟩⟩
theorem fn27_y {x : List Int} {g0 : rHp} {q : Int} : fY q g0 (fn27 x g0).2.2 := by
  have f_g0 : fY q g0 g0 := fY_refl
  refine zGoo_P (I := fun s => fY q g0 s.2.2) fY_zero (fun s hs => ?_) ?_
  · unfold en27
    refine oS_ite (fun hb => ?_) (fun hb => ?_)
    · refine oS_let fun g1 e => ?_
      have f_g1 : fY q g0 g1 := by rw [e]; exact hs
      clear e
      refine oS_dl ?_
      refine oS_dl ?_
      refine oS_dl ?_
      refine oS_ite (fun hb => ?_) (fun hb => ?_)
      · refine oS_let fun p1 e_p1 => ?_
        refine oS_let fun g2 e => ?_
        have f_g2 : fY q g0 g2 := by rw [e, e_p1]; exact fY_tr f_g1 fn24_y
        clear e
        refine oS_ite (fun hb => ?_) (fun hb => ?_)
        · exact f_g2
        · exact f_g2
      · refine oS_let fun p1 e_p1 => ?_
        refine oS_let fun g2 e => ?_
        have f_g2 : fY q g0 g2 := by rw [e, e_p1]; exact fY_tr f_g1 fn7_y
        clear e
        refine oS_dl ?_
        refine oS_ite (fun hb => ?_) (fun hb => ?_)
        · refine oS_let fun g3 e => ?_
          have f_g3 : fY q g0 g3 := by rw [e]; exact fY_up f_g2 (by decide)
          clear e
          refine oS_let fun p3 e_p3 => ?_
          refine oS_let fun g4 e => ?_
          have f_g4 : fY q g0 g4 := by rw [e, e_p3]; exact fY_tr f_g3 fn6_y
          clear e
          refine oS_ite (fun hb => ?_) (fun hb => ?_)
          · refine oS_dl ?_
            refine oS_ite (fun hb => ?_) (fun hb => ?_)
            · refine oS_let fun p4 e_p4 => ?_
              refine oS_let fun g5 e => ?_
              have f_g5 : fY q g0 g5 := by rw [e, e_p4]; exact fY_tr f_g4 fn20_y
              clear e
              refine oS_ite (fun hb => ?_) (fun hb => ?_)
              · refine oS_dl ?_
                refine oS_dl ?_
                refine oS_let fun g6 e => ?_
                have f_g6 : fY q g0 g6 := by rw [e]; exact fY_up f_g5 (by decide)
                clear e
                refine oS_let fun g7 e => ?_
                have f_g7 : fY q g0 g7 := by rw [e]; exact fY_up f_g6 (by decide)
                clear e
                refine oS_let fun g8 e => ?_
                have f_g8 : fY q g0 g8 := by rw [e]; exact fY_15 f_g7 (by decide)
                clear e
                refine oS_let fun p8 e_p8 => ?_
                refine oS_let fun g9 e => ?_
                have f_g9 : fY q g0 g9 := by rw [e, e_p8]; exact fY_tr f_g8 fn7_y
                clear e
                refine oS_dl ?_
                refine oS_let fun p9 e_p9 => ?_
                refine oS_let fun g10 e => ?_
                have f_g10 : fY q g0 g10 := by rw [e, e_p9]; exact fY_tr f_g9 fn6_y
                clear e
                refine oS_ite (fun hb => ?_) (fun hb => ?_)
                · refine oS_dl ?_
                  refine oS_ite (fun hb => ?_) (fun hb => ?_)
                  · exact f_g10
                  · refine oS_let fun g11 e => ?_
                    have f_g11 : fY q g0 g11 := by rw [e]; exact fY_15 f_g10 (by decide)
                    clear e
                    exact f_g11
                · exact f_g10
              · exact f_g5
            · refine oS_let fun p4 e_p4 => ?_
              refine oS_let fun g5 e => ?_
              have f_g5 : fY q g0 g5 := by rw [e, e_p4]; exact fY_tr f_g4 fn26_y
              clear e
              refine oS_ite (fun hb => ?_) (fun hb => ?_)
              · refine oS_let fun g6 e => ?_
                have f_g6 : fY q g0 g6 := by rw [e]; exact fY_up f_g5 (by decide)
                clear e
                refine oS_dl ?_
                refine oS_let fun g7 e => ?_
                have f_g7 : fY q g0 g7 := by rw [e]; exact fY_up f_g6 (by decide)
                clear e
                refine oS_let fun g8 e => ?_
                have f_g8 : fY q g0 g8 := by rw [e]; exact fY_15 f_g7 (by decide)
                clear e
                refine oS_let fun p8 e_p8 => ?_
                refine oS_let fun g9 e => ?_
                have f_g9 : fY q g0 g9 := by rw [e, e_p8]; exact fY_tr f_g8 fn7_y
                clear e
                refine oS_dl ?_
                refine oS_let fun p9 e_p9 => ?_
                refine oS_let fun g10 e => ?_
                have f_g10 : fY q g0 g10 := by rw [e, e_p9]; exact fY_tr f_g9 fn6_y
                clear e
                refine oS_ite (fun hb => ?_) (fun hb => ?_)
                · refine oS_dl ?_
                  refine oS_ite (fun hb => ?_) (fun hb => ?_)
                  · exact f_g10
                  · refine oS_let fun g11 e => ?_
                    have f_g11 : fY q g0 g11 := by rw [e]; exact fY_15 f_g10 (by decide)
                    clear e
                    exact f_g11
                · exact f_g10
              · exact f_g5
          · refine oS_let fun p4 e_p4 => ?_
            refine oS_let fun g5 e => ?_
            have f_g5 : fY q g0 g5 := by rw [e, e_p4]; exact fY_tr f_g4 fn20_y
            clear e
            exact f_g5
        · refine oS_let fun p2 e_p2 => ?_
          refine oS_let fun g3 e => ?_
          have f_g3 : fY q g0 g3 := by rw [e, e_p2]; exact fY_tr f_g2 fn8_y
          clear e
          exact f_g3
    · exact f_g0
  · unfold dn27
    refine oS_let fun p0 e_p0 => ?_
    refine oS_let fun g1 e => ?_
    have f_g1 : fY q g0 g1 := by rw [e, e_p0]; exact fY_tr f_g0 fn23_y
    clear e
    refine oS_ite (fun hb => ?_) (fun hb => ?_)
    · refine oS_dl ?_
      refine oS_dl ?_
      refine oS_let fun g2 e => ?_
      have f_g2 : fY q g0 g2 := by rw [e]; exact fY_15 f_g1 (by decide)
      clear e
      refine oS_let fun g3 e => ?_
      have f_g3 : fY q g0 g3 := by rw [e]; exact fY_15 f_g2 (by decide)
      clear e
      refine oS_let fun g4 e => ?_
      have f_g4 : fY q g0 g4 := by rw [e]; exact fY_15 f_g3 (by decide)
      clear e
      refine oS_let fun g5 e => ?_
      have f_g5 : fY q g0 g5 := by rw [e]; exact fY_15 f_g4 (by decide)
      clear e
      refine oS_let fun g6 e => ?_
      have f_g6 : fY q g0 g6 := by rw [e]; exact fY_15 f_g5 (by decide)
      clear e
      refine oS_let fun p6 e_p6 => ?_
      refine oS_let fun g7 e => ?_
      have f_g7 : fY q g0 g7 := by rw [e, e_p6]; exact fY_tr f_g6 fn24_y
      clear e
      refine oS_ite (fun hb => ?_) (fun hb => ?_)
      · exact f_g7
      · exact f_g7
    · exact f_g1
theorem fn40_y {x : List Int} {g0 : rHp} : fY (qQ0 g0) g0 (fn40 x g0).2.2 := by
  have f_g0 : fY (qQ0 g0) g0 g0 := fY_refl
  show oP (fun h => fY (qQ0 g0) g0 h) (fn40 x g0)
  unfold fn40
  refine oP_dl ?_
  refine oP_dl ?_
  refine oP_dl ?_
  refine oP_dl ?_
  refine oP_dl ?_
  refine oP_let fun p0 e_p0 => ?_
  refine oP_let fun g1 e => ?_
  have f_g1 : fY (qQ0 g0) g0 g1 := by rw [e, e_p0]; exact fY_tr f_g0 fn33_y
  clear e
  refine oP_let fun p1 e_p1 => ?_
  refine oP_let fun g2 e => ?_
  have f_g2 : fY (qQ0 g0) g0 g2 := by rw [e, e_p1]; exact fY_tr f_g1 fn7_y
  clear e
  refine oP_dl ?_
  refine oP_let fun p2 e_p2 => ?_
  refine oP_let fun g3 e => ?_
  have f_g3 : fY (qQ0 g0) g0 g3 := by rw [e, e_p2]; exact fY_tr f_g2 fn6_y
  clear e
  refine oP_ite (fun hb => ?_) (fun hb => ?_)
  · refine oP_dl ?_
    refine oP_ite (fun hb => ?_) (fun hb => ?_)
    · refine oP_let fun g4 e => ?_
      have f_g4 : fY (qQ0 g0) g0 g4 := by rw [e]; exact fY_15 f_g3 (by decide)
      clear e
      refine oP_let fun g5 e => ?_
      have f_g5 : fY (qQ0 g0) g0 g5 := by rw [e]; exact fY_7 f_g4 (by decide) (Int.le_refl _)
      clear e
      refine oP_let fun p5 e_p5 => ?_
      refine oP_let fun g6 e => ?_
      have f_g6 : fY (qQ0 g0) g0 g6 := by rw [e, e_p5]; exact fY_tr f_g5 fn6_y
      clear e
      refine oP_ite (fun hb => ?_) (fun hb => ?_)
      · refine oP_dl ?_
        refine oP_ite (fun hb => ?_) (fun hb => ?_)
        · refine oP_dl ?_
          refine oP_ite (fun hb => ?_) (fun hb => ?_)
          · refine oP_let fun p6 e_p6 => ?_
            refine oP_let fun g7 e => ?_
            have f_g7 : fY (qQ0 g0) g0 g7 := by rw [e, e_p6]; exact fY_g f_g6 (fn34_y (by decide))
            clear e
            refine oP_ite (fun hb => ?_) (fun hb => ?_)
            · exact f_g7
            · exact f_g7
          · refine oP_let fun p6 e_p6 => ?_
            refine oP_let fun g7 e => ?_
            have f_g7 : fY (qQ0 g0) g0 g7 := by rw [e, e_p6]; exact fY_tr f_g6 fn19_y
            clear e
            refine oP_ite (fun hb => ?_) (fun hb => ?_)
            · refine oP_let fun p7 e_p7 => ?_
              refine oP_let fun g8 e => ?_
              have f_g8 : fY (qQ0 g0) g0 g8 := by rw [e, e_p7]; exact fY_g f_g7 (fn34_y (by decide))
              clear e
              refine oP_ite (fun hb => ?_) (fun hb => ?_)
              · exact f_g8
              · exact f_g8
            · refine oP_let fun p7 e_p7 => ?_
              refine oP_let fun g8 e => ?_
              have f_g8 : fY (qQ0 g0) g0 g8 := by rw [e, e_p7]; exact fY_tr f_g7 fn8_y
              clear e
              exact f_g8
        · refine oP_let fun g7 e => ?_
          have f_g7 : fY (qQ0 g0) g0 g7 := by rw [e]; exact fY_15 f_g6 (by decide)
          clear e
          refine oP_let fun g8 e => ?_
          have f_g8 : fY (qQ0 g0) g0 g8 := by rw [e]; exact fY_7 f_g7 (by decide) (Int.le_refl _)
          clear e
          refine oP_dl ?_
          refine oP_ite (fun hb => ?_) (fun hb => ?_)
          · refine oP_let fun p8 e_p8 => ?_
            refine oP_let fun g9 e => ?_
            have f_g9 : fY (qQ0 g0) g0 g9 := by rw [e, e_p8]; exact fY_g f_g8 (fn34_y (by decide))
            clear e
            refine oP_ite (fun hb => ?_) (fun hb => ?_)
            · exact f_g9
            · exact f_g9
          · refine oP_let fun p8 e_p8 => ?_
            refine oP_let fun g9 e => ?_
            have f_g9 : fY (qQ0 g0) g0 g9 := by rw [e, e_p8]; exact fY_tr f_g8 fn19_y
            clear e
            refine oP_ite (fun hb => ?_) (fun hb => ?_)
            · refine oP_let fun p9 e_p9 => ?_
              refine oP_let fun g10 e => ?_
              have f_g10 : fY (qQ0 g0) g0 g10 := by rw [e, e_p9]; exact fY_g f_g9 (fn34_y (by decide))
              clear e
              refine oP_ite (fun hb => ?_) (fun hb => ?_)
              · exact f_g10
              · exact f_g10
            · refine oP_let fun p9 e_p9 => ?_
              refine oP_let fun g10 e => ?_
              have f_g10 : fY (qQ0 g0) g0 g10 := by rw [e, e_p9]; exact fY_tr f_g9 fn8_y
              clear e
              exact f_g10
      · refine oP_dl ?_
        refine oP_ite (fun hb => ?_) (fun hb => ?_)
        · refine oP_let fun p6 e_p6 => ?_
          refine oP_let fun g7 e => ?_
          have f_g7 : fY (qQ0 g0) g0 g7 := by rw [e, e_p6]; exact fY_g f_g6 (fn34_y (by decide))
          clear e
          exact f_g7
        · refine oP_let fun p6 e_p6 => ?_
          refine oP_let fun g7 e => ?_
          have f_g7 : fY (qQ0 g0) g0 g7 := by rw [e, e_p6]; exact fY_tr f_g6 fn19_y
          clear e
          refine oP_ite (fun hb => ?_) (fun hb => ?_)
          · refine oP_let fun p7 e_p7 => ?_
            refine oP_let fun g8 e => ?_
            have f_g8 : fY (qQ0 g0) g0 g8 := by rw [e, e_p7]; exact fY_g f_g7 (fn34_y (by decide))
            clear e
            exact f_g8
          · refine oP_let fun p7 e_p7 => ?_
            refine oP_let fun g8 e => ?_
            have f_g8 : fY (qQ0 g0) g0 g8 := by rw [e, e_p7]; exact fY_tr f_g7 fn8_y
            clear e
            exact f_g8
    · refine oP_ite (fun hb => ?_) (fun hb => ?_)
      · refine oP_let fun g4 e => ?_
        have f_g4 : fY (qQ0 g0) g0 g4 := by rw [e]; exact fY_15 f_g3 (by decide)
        clear e
        refine oP_let fun g5 e => ?_
        have f_g5 : fY (qQ0 g0) g0 g5 := by rw [e]; exact fY_7 f_g4 (by decide) (Int.le_refl _)
        clear e
        refine oP_dl ?_
        refine oP_ite (fun hb => ?_) (fun hb => ?_)
        · refine oP_let fun p5 e_p5 => ?_
          refine oP_let fun g6 e => ?_
          have f_g6 : fY (qQ0 g0) g0 g6 := by rw [e, e_p5]; exact fY_g f_g5 (fn34_y (by decide))
          clear e
          refine oP_ite (fun hb => ?_) (fun hb => ?_)
          · exact f_g6
          · exact f_g6
        · refine oP_let fun p5 e_p5 => ?_
          refine oP_let fun g6 e => ?_
          have f_g6 : fY (qQ0 g0) g0 g6 := by rw [e, e_p5]; exact fY_tr f_g5 fn19_y
          clear e
          refine oP_ite (fun hb => ?_) (fun hb => ?_)
          · refine oP_let fun p6 e_p6 => ?_
            refine oP_let fun g7 e => ?_
            have f_g7 : fY (qQ0 g0) g0 g7 := by rw [e, e_p6]; exact fY_g f_g6 (fn34_y (by decide))
            clear e
            refine oP_ite (fun hb => ?_) (fun hb => ?_)
            · exact f_g7
            · exact f_g7
          · refine oP_let fun p6 e_p6 => ?_
            refine oP_let fun g7 e => ?_
            have f_g7 : fY (qQ0 g0) g0 g7 := by rw [e, e_p6]; exact fY_tr f_g6 fn8_y
            clear e
            exact f_g7
      · refine oP_let fun p3 e_p3 => ?_
        refine oP_let fun g4 e => ?_
        have f_g4 : fY (qQ0 g0) g0 g4 := by rw [e, e_p3]; exact fY_tr f_g3 fn8_y
        clear e
        exact f_g4
  · refine oP_let fun p3 e_p3 => ?_
    refine oP_let fun g4 e => ?_
    have f_g4 : fY (qQ0 g0) g0 g4 := by rw [e, e_p3]; exact fY_tr f_g3 fn8_y
    clear e
    exact f_g4
theorem fn35_y {x : List Int} {g0 : rHp} : fY (qQ0 g0) g0 (fn35 x g0).2.2 := by
  have f_g0 : fY (qQ0 g0) g0 g0 := fY_refl
  show oP (fun h => fY (qQ0 g0) g0 h) (fn35 x g0)
  unfold fn35
  refine oP_dl ?_
  refine oP_dl ?_
  refine oP_dl ?_
  refine oP_dl ?_
  refine oP_dl ?_
  refine oP_let fun p0 e_p0 => ?_
  refine oP_let fun g1 e => ?_
  have f_g1 : fY (qQ0 g0) g0 g1 := by rw [e, e_p0]; exact fY_tr f_g0 fn33_y
  clear e
  refine oP_let fun p1 e_p1 => ?_
  refine oP_let fun g2 e => ?_
  have f_g2 : fY (qQ0 g0) g0 g2 := by rw [e, e_p1]; exact fY_tr f_g1 fn7_y
  clear e
  refine oP_dl ?_
  refine oP_let fun p2 e_p2 => ?_
  refine oP_let fun g3 e => ?_
  have f_g3 : fY (qQ0 g0) g0 g3 := by rw [e, e_p2]; exact fY_tr f_g2 fn6_y
  clear e
  refine oP_ite (fun hb => ?_) (fun hb => ?_)
  · refine oP_dl ?_
    refine oP_ite (fun hb => ?_) (fun hb => ?_)
    · refine oP_let fun g4 e => ?_
      have f_g4 : fY (qQ0 g0) g0 g4 := by rw [e]; exact fY_15 f_g3 (by decide)
      clear e
      refine oP_let fun g5 e => ?_
      have f_g5 : fY (qQ0 g0) g0 g5 := by rw [e]; exact fY_7 f_g4 (by decide) (Int.le_refl _)
      clear e
      refine oP_let fun p5 e_p5 => ?_
      refine oP_let fun g6 e => ?_
      have f_g6 : fY (qQ0 g0) g0 g6 := by rw [e, e_p5]; exact fY_tr f_g5 fn6_y
      clear e
      refine oP_ite (fun hb => ?_) (fun hb => ?_)
      · refine oP_dl ?_
        refine oP_ite (fun hb => ?_) (fun hb => ?_)
        · refine oP_dl ?_
          refine oP_ite (fun hb => ?_) (fun hb => ?_)
          · refine oP_let fun p6 e_p6 => ?_
            refine oP_let fun g7 e => ?_
            have f_g7 : fY (qQ0 g0) g0 g7 := by rw [e, e_p6]; exact fY_g f_g6 (fn34_y (by decide))
            clear e
            refine oP_ite (fun hb => ?_) (fun hb => ?_)
            · exact f_g7
            · exact f_g7
          · refine oP_let fun p6 e_p6 => ?_
            refine oP_let fun g7 e => ?_
            have f_g7 : fY (qQ0 g0) g0 g7 := by rw [e, e_p6]; exact fY_tr f_g6 fn19_y
            clear e
            refine oP_ite (fun hb => ?_) (fun hb => ?_)
            · refine oP_let fun p7 e_p7 => ?_
              refine oP_let fun g8 e => ?_
              have f_g8 : fY (qQ0 g0) g0 g8 := by rw [e, e_p7]; exact fY_g f_g7 (fn34_y (by decide))
              clear e
              refine oP_ite (fun hb => ?_) (fun hb => ?_)
              · exact f_g8
              · exact f_g8
            · refine oP_let fun p7 e_p7 => ?_
              refine oP_let fun g8 e => ?_
              have f_g8 : fY (qQ0 g0) g0 g8 := by rw [e, e_p7]; exact fY_tr f_g7 fn8_y
              clear e
              exact f_g8
        · refine oP_let fun g7 e => ?_
          have f_g7 : fY (qQ0 g0) g0 g7 := by rw [e]; exact fY_15 f_g6 (by decide)
          clear e
          refine oP_let fun g8 e => ?_
          have f_g8 : fY (qQ0 g0) g0 g8 := by rw [e]; exact fY_7 f_g7 (by decide) (Int.le_refl _)
          clear e
          refine oP_dl ?_
          refine oP_ite (fun hb => ?_) (fun hb => ?_)
          · refine oP_let fun p8 e_p8 => ?_
            refine oP_let fun g9 e => ?_
            have f_g9 : fY (qQ0 g0) g0 g9 := by rw [e, e_p8]; exact fY_g f_g8 (fn34_y (by decide))
            clear e
            refine oP_ite (fun hb => ?_) (fun hb => ?_)
            · exact f_g9
            · exact f_g9
          · refine oP_let fun p8 e_p8 => ?_
            refine oP_let fun g9 e => ?_
            have f_g9 : fY (qQ0 g0) g0 g9 := by rw [e, e_p8]; exact fY_tr f_g8 fn19_y
            clear e
            refine oP_ite (fun hb => ?_) (fun hb => ?_)
            · refine oP_let fun p9 e_p9 => ?_
              refine oP_let fun g10 e => ?_
              have f_g10 : fY (qQ0 g0) g0 g10 := by rw [e, e_p9]; exact fY_g f_g9 (fn34_y (by decide))
              clear e
              refine oP_ite (fun hb => ?_) (fun hb => ?_)
              · exact f_g10
              · exact f_g10
            · refine oP_let fun p9 e_p9 => ?_
              refine oP_let fun g10 e => ?_
              have f_g10 : fY (qQ0 g0) g0 g10 := by rw [e, e_p9]; exact fY_tr f_g9 fn8_y
              clear e
              exact f_g10
      · refine oP_dl ?_
        refine oP_ite (fun hb => ?_) (fun hb => ?_)
        · refine oP_let fun p6 e_p6 => ?_
          refine oP_let fun g7 e => ?_
          have f_g7 : fY (qQ0 g0) g0 g7 := by rw [e, e_p6]; exact fY_g f_g6 (fn34_y (by decide))
          clear e
          exact f_g7
        · refine oP_let fun p6 e_p6 => ?_
          refine oP_let fun g7 e => ?_
          have f_g7 : fY (qQ0 g0) g0 g7 := by rw [e, e_p6]; exact fY_tr f_g6 fn19_y
          clear e
          refine oP_ite (fun hb => ?_) (fun hb => ?_)
          · refine oP_let fun p7 e_p7 => ?_
            refine oP_let fun g8 e => ?_
            have f_g8 : fY (qQ0 g0) g0 g8 := by rw [e, e_p7]; exact fY_g f_g7 (fn34_y (by decide))
            clear e
            exact f_g8
          · refine oP_let fun p7 e_p7 => ?_
            refine oP_let fun g8 e => ?_
            have f_g8 : fY (qQ0 g0) g0 g8 := by rw [e, e_p7]; exact fY_tr f_g7 fn8_y
            clear e
            exact f_g8
    · refine oP_ite (fun hb => ?_) (fun hb => ?_)
      · refine oP_let fun g4 e => ?_
        have f_g4 : fY (qQ0 g0) g0 g4 := by rw [e]; exact fY_15 f_g3 (by decide)
        clear e
        refine oP_let fun g5 e => ?_
        have f_g5 : fY (qQ0 g0) g0 g5 := by rw [e]; exact fY_7 f_g4 (by decide) (Int.le_refl _)
        clear e
        refine oP_dl ?_
        refine oP_ite (fun hb => ?_) (fun hb => ?_)
        · refine oP_let fun p5 e_p5 => ?_
          refine oP_let fun g6 e => ?_
          have f_g6 : fY (qQ0 g0) g0 g6 := by rw [e, e_p5]; exact fY_g f_g5 (fn34_y (by decide))
          clear e
          refine oP_ite (fun hb => ?_) (fun hb => ?_)
          · exact f_g6
          · exact f_g6
        · refine oP_let fun p5 e_p5 => ?_
          refine oP_let fun g6 e => ?_
          have f_g6 : fY (qQ0 g0) g0 g6 := by rw [e, e_p5]; exact fY_tr f_g5 fn19_y
          clear e
          refine oP_ite (fun hb => ?_) (fun hb => ?_)
          · refine oP_let fun p6 e_p6 => ?_
            refine oP_let fun g7 e => ?_
            have f_g7 : fY (qQ0 g0) g0 g7 := by rw [e, e_p6]; exact fY_g f_g6 (fn34_y (by decide))
            clear e
            refine oP_ite (fun hb => ?_) (fun hb => ?_)
            · exact f_g7
            · exact f_g7
          · refine oP_let fun p6 e_p6 => ?_
            refine oP_let fun g7 e => ?_
            have f_g7 : fY (qQ0 g0) g0 g7 := by rw [e, e_p6]; exact fY_tr f_g6 fn8_y
            clear e
            exact f_g7
      · refine oP_let fun p3 e_p3 => ?_
        refine oP_let fun g4 e => ?_
        have f_g4 : fY (qQ0 g0) g0 g4 := by rw [e, e_p3]; exact fY_tr f_g3 fn8_y
        clear e
        exact f_g4
  · refine oP_let fun p3 e_p3 => ?_
    refine oP_let fun g4 e => ?_
    have f_g4 : fY (qQ0 g0) g0 g4 := by rw [e, e_p3]; exact fY_tr f_g3 fn8_y
    clear e
    exact f_g4
theorem fn42_y {x : List Int} {g0 : rHp} : fY (qQ0 g0) g0 (fn42 x g0).2.2 := by
  have f_g0 : fY (qQ0 g0) g0 g0 := fY_refl
  show oP (fun h => fY (qQ0 g0) g0 h) (fn42 x g0)
  unfold fn42
  refine oP_dl ?_
  refine oP_dl ?_
  refine oP_dl ?_
  refine oP_dl ?_
  refine oP_let fun p0 e_p0 => ?_
  refine oP_let fun g1 e => ?_
  have f_g1 : fY (qQ0 g0) g0 g1 := by rw [e, e_p0]; exact fY_tr f_g0 fn7_y
  clear e
  refine oP_dl ?_
  refine oP_let fun p1 e_p1 => ?_
  refine oP_let fun g2 e => ?_
  have f_g2 : fY (qQ0 g0) g0 g2 := by rw [e, e_p1]; exact fY_tr f_g1 fn33_y
  clear e
  refine oP_let fun g3 e => ?_
  have f_g3 : fY (qQ0 g0) g0 g3 := by rw [e]; exact fY_7 f_g2 (by decide) (Int.le_refl _)
  clear e
  refine oP_let fun p3 e_p3 => ?_
  refine oP_let fun g4 e => ?_
  have f_g4 : fY (qQ0 g0) g0 g4 := by rw [e, e_p3]; exact fY_tr f_g3 fn6_y
  clear e
  refine oP_ite (fun hb => ?_) (fun hb => ?_)
  · refine oP_dl ?_
    refine oP_ite (fun hb => ?_) (fun hb => ?_)
    · refine oP_let fun p4 e_p4 => ?_
      refine oP_let fun g5 e => ?_
      have f_g5 : fY (qQ0 g0) g0 g5 := by rw [e, e_p4]; exact fY_tr f_g4 fn9_y
      clear e
      refine oP_ite (fun hb => ?_) (fun hb => ?_)
      · refine oP_let fun p5 e_p5 => ?_
        refine oP_let fun g6 e => ?_
        have f_g6 : fY (qQ0 g0) g0 g6 := by rw [e, e_p5]; exact fY_tr f_g5 fn12_y
        clear e
        refine oP_ite (fun hb => ?_) (fun hb => ?_)
        · refine oP_let fun p6 e_p6 => ?_
          refine oP_let fun g7 e => ?_
          have f_g7 : fY (qQ0 g0) g0 g7 := by rw [e, e_p6]; exact fY_tr f_g6 fn7_y
          clear e
          refine oP_dl ?_
          refine oP_let fun p7 e_p7 => ?_
          refine oP_let fun g8 e => ?_
          have f_g8 : fY (qQ0 g0) g0 g8 := by rw [e, e_p7]; exact fY_tr f_g7 fn6_y
          clear e
          refine oP_ite (fun hb => ?_) (fun hb => ?_)
          · refine oP_dl ?_
            refine oP_ite (fun hb => ?_) (fun hb => ?_)
            · refine oP_let fun p8 e_p8 => ?_
              refine oP_let fun g9 e => ?_
              have f_g9 : fY (qQ0 g0) g0 g9 := by rw [e, e_p8]; exact fY_tr f_g8 fn15_y
              clear e
              refine oP_dl ?_
              refine oP_let fun g10 e => ?_
              have f_g10 : fY (qQ0 g0) g0 g10 := by rw [e]; exact fY_15 f_g9 (by decide)
              clear e
              refine oP_let fun g11 e => ?_
              have f_g11 : fY (qQ0 g0) g0 g11 := by rw [e]; exact fY_15 f_g10 (by decide)
              clear e
              refine oP_let fun g12 e => ?_
              have f_g12 : fY (qQ0 g0) g0 g12 := by rw [e]; exact fY_8 f_g11 (by decide) (by omega)
              clear e
              refine oP_let fun g13 e => ?_
              have f_g13 : fY (qQ0 g0) g0 g13 := by rw [e]; exact fY_8 f_g12 (by decide) (by omega)
              clear e
              refine oP_let fun p13 e_p13 => ?_
              refine oP_let fun g14 e => ?_
              have f_g14 : fY (qQ0 g0) g0 g14 := by rw [e, e_p13]; exact fY_tr f_g13 fn7_y
              clear e
              refine oP_let fun p14 e_p14 => ?_
              refine oP_let fun g15 e => ?_
              have f_g15 : fY (qQ0 g0) g0 g15 := by rw [e, e_p14]; exact fY_g f_g14 fn40_y
              clear e
              refine oP_ite (fun hb => ?_) (fun hb => ?_)
              · exact f_g15
              · exact f_g15
            · refine oP_let fun p8 e_p8 => ?_
              refine oP_let fun g9 e => ?_
              have f_g9 : fY (qQ0 g0) g0 g9 := by rw [e, e_p8]; exact fY_g f_g8 fn41_y
              clear e
              refine oP_ite (fun hb => ?_) (fun hb => ?_)
              · exact f_g9
              · exact f_g9
          · refine oP_let fun p8 e_p8 => ?_
            refine oP_let fun g9 e => ?_
            have f_g9 : fY (qQ0 g0) g0 g9 := by rw [e, e_p8]; exact fY_tr f_g8 fn15_y
            clear e
            refine oP_dl ?_
            refine oP_let fun g10 e => ?_
            have f_g10 : fY (qQ0 g0) g0 g10 := by rw [e]; exact fY_15 f_g9 (by decide)
            clear e
            refine oP_let fun g11 e => ?_
            have f_g11 : fY (qQ0 g0) g0 g11 := by rw [e]; exact fY_15 f_g10 (by decide)
            clear e
            refine oP_let fun g12 e => ?_
            have f_g12 : fY (qQ0 g0) g0 g12 := by rw [e]; exact fY_8 f_g11 (by decide) (by omega)
            clear e
            refine oP_let fun g13 e => ?_
            have f_g13 : fY (qQ0 g0) g0 g13 := by rw [e]; exact fY_8 f_g12 (by decide) (by omega)
            clear e
            refine oP_let fun p13 e_p13 => ?_
            refine oP_let fun g14 e => ?_
            have f_g14 : fY (qQ0 g0) g0 g14 := by rw [e, e_p13]; exact fY_tr f_g13 fn7_y
            clear e
            refine oP_let fun p14 e_p14 => ?_
            refine oP_let fun g15 e => ?_
            have f_g15 : fY (qQ0 g0) g0 g15 := by rw [e, e_p14]; exact fY_g f_g14 fn40_y
            clear e
            exact f_g15
        · exact f_g6
      · refine oP_let fun p5 e_p5 => ?_
        refine oP_let fun g6 e => ?_
        have f_g6 : fY (qQ0 g0) g0 g6 := by rw [e, e_p5]; exact fY_tr f_g5 fn20_y
        clear e
        refine oP_ite (fun hb => ?_) (fun hb => ?_)
        · refine oP_dl ?_
          refine oP_dl ?_
          refine oP_let fun g7 e => ?_
          have f_g7 : fY (qQ0 g0) g0 g7 := by rw [e]; exact fY_8 f_g6 (by decide) (by omega)
          clear e
          refine oP_let fun g8 e => ?_
          have f_g8 : fY (qQ0 g0) g0 g8 := by rw [e]; exact fY_8 f_g7 (by decide) (by omega)
          clear e
          refine oP_let fun p8 e_p8 => ?_
          refine oP_let fun g9 e => ?_
          have f_g9 : fY (qQ0 g0) g0 g9 := by rw [e, e_p8]; exact fY_tr f_g8 fn7_y
          clear e
          refine oP_dl ?_
          refine oP_ite (fun hb => ?_) (fun hb => ?_)
          · refine oP_let fun p9 e_p9 => ?_
            refine oP_let fun g10 e => ?_
            have f_g10 : fY (qQ0 g0) g0 g10 := by rw [e, e_p9]; exact fY_g f_g9 fn40_y
            clear e
            refine oP_ite (fun hb => ?_) (fun hb => ?_)
            · exact f_g10
            · exact f_g10
          · refine oP_let fun p9 e_p9 => ?_
            refine oP_let fun g10 e => ?_
            have f_g10 : fY (qQ0 g0) g0 g10 := by rw [e, e_p9]; exact fY_tr f_g9 fn6_y
            clear e
            refine oP_ite (fun hb => ?_) (fun hb => ?_)
            · refine oP_dl ?_
              refine oP_let fun p10 e_p10 => ?_
              refine oP_let fun g11 e => ?_
              have f_g11 : fY (qQ0 g0) g0 g11 := by rw [e, e_p10]; exact fY_tr f_g10 fn9_y
              clear e
              refine oP_ite (fun hb => ?_) (fun hb => ?_)
              · refine oP_let fun p11 e_p11 => ?_
                refine oP_let fun g12 e => ?_
                have f_g12 : fY (qQ0 g0) g0 g12 := by rw [e, e_p11]; exact fY_tr f_g11 fn12_y
                clear e
                refine oP_ite (fun hb => ?_) (fun hb => ?_)
                · refine oP_let fun p12 e_p12 => ?_
                  refine oP_let fun g13 e => ?_
                  have f_g13 : fY (qQ0 g0) g0 g13 := by rw [e, e_p12]; exact fY_tr f_g12 fn13_y
                  clear e
                  refine oP_ite (fun hb => ?_) (fun hb => ?_)
                  · refine oP_let fun p13 e_p13 => ?_
                    refine oP_let fun g14 e => ?_
                    have f_g14 : fY (qQ0 g0) g0 g14 := by rw [e, e_p13]; exact fY_tr f_g13 fn18_y
                    clear e
                    refine oP_ite (fun hb => ?_) (fun hb => ?_)
                    · refine oP_let fun p14 e_p14 => ?_
                      refine oP_let fun g15 e => ?_
                      have f_g15 : fY (qQ0 g0) g0 g15 := by rw [e, e_p14]; exact fY_tr f_g14 fn8_y
                      clear e
                      exact f_g15
                    · refine oP_let fun p14 e_p14 => ?_
                      refine oP_let fun g15 e => ?_
                      have f_g15 : fY (qQ0 g0) g0 g15 := by rw [e, e_p14]; exact fY_g f_g14 (fn34_y (by decide))
                      clear e
                      refine oP_ite (fun hb => ?_) (fun hb => ?_)
                      · refine oP_let fun p15 e_p15 => ?_
                        refine oP_let fun g16 e => ?_
                        have f_g16 : fY (qQ0 g0) g0 g16 := by rw [e, e_p15]; exact fY_tr f_g15 fn7_y
                        clear e
                        refine oP_dl ?_
                        refine oP_let fun p16 e_p16 => ?_
                        refine oP_let fun g17 e => ?_
                        have f_g17 : fY (qQ0 g0) g0 g17 := by rw [e, e_p16]; exact fY_tr f_g16 fn6_y
                        clear e
                        refine oP_ite (fun hb => ?_) (fun hb => ?_)
                        · refine oP_dl ?_
                          refine oP_ite (fun hb => ?_) (fun hb => ?_)
                          · refine oP_let fun g18 e => ?_
                            have f_g18 : fY (qQ0 g0) g0 g18 := by rw [e]; exact fY_15 f_g17 (by decide)
                            clear e
                            refine oP_let fun g19 e => ?_
                            have f_g19 : fY (qQ0 g0) g0 g19 := by rw [e]; exact fY_7 f_g18 (by decide) (Int.le_refl _)
                            clear e
                            refine oP_let fun p19 e_p19 => ?_
                            refine oP_let fun g20 e => ?_
                            have f_g20 : fY (qQ0 g0) g0 g20 := by rw [e, e_p19]; exact fY_g f_g19 (fn34_y (by decide))
                            clear e
                            refine oP_ite (fun hb => ?_) (fun hb => ?_)
                            · refine oP_dl ?_
                              refine oP_dl ?_
                              refine oP_let fun g21 e => ?_
                              have f_g21 : fY (qQ0 g0) g0 g21 := by rw [e]; exact fY_15 f_g20 (by decide)
                              clear e
                              exact f_g21
                            · exact f_g20
                          · refine oP_ite (fun hb => ?_) (fun hb => ?_)
                            · refine oP_let fun g18 e => ?_
                              have f_g18 : fY (qQ0 g0) g0 g18 := by rw [e]; exact fY_15 f_g17 (by decide)
                              clear e
                              refine oP_let fun g19 e => ?_
                              have f_g19 : fY (qQ0 g0) g0 g19 := by rw [e]; exact fY_7 f_g18 (by decide) (Int.le_refl _)
                              clear e
                              refine oP_let fun p19 e_p19 => ?_
                              refine oP_let fun g20 e => ?_
                              have f_g20 : fY (qQ0 g0) g0 g20 := by rw [e, e_p19]; exact fY_g f_g19 (fn34_y (by decide))
                              clear e
                              refine oP_ite (fun hb => ?_) (fun hb => ?_)
                              · refine oP_dl ?_
                                refine oP_dl ?_
                                refine oP_let fun g21 e => ?_
                                have f_g21 : fY (qQ0 g0) g0 g21 := by rw [e]; exact fY_15 f_g20 (by decide)
                                clear e
                                exact f_g21
                              · exact f_g20
                            · refine oP_ite (fun hb => ?_) (fun hb => ?_)
                              · refine oP_let fun g18 e => ?_
                                have f_g18 : fY (qQ0 g0) g0 g18 := by rw [e]; exact fY_15 f_g17 (by decide)
                                clear e
                                refine oP_let fun g19 e => ?_
                                have f_g19 : fY (qQ0 g0) g0 g19 := by rw [e]; exact fY_7 f_g18 (by decide) (Int.le_refl _)
                                clear e
                                refine oP_let fun p19 e_p19 => ?_
                                refine oP_let fun g20 e => ?_
                                have f_g20 : fY (qQ0 g0) g0 g20 := by rw [e, e_p19]; exact fY_g f_g19 (fn34_y (by decide))
                                clear e
                                refine oP_ite (fun hb => ?_) (fun hb => ?_)
                                · refine oP_dl ?_
                                  refine oP_dl ?_
                                  refine oP_let fun g21 e => ?_
                                  have f_g21 : fY (qQ0 g0) g0 g21 := by rw [e]; exact fY_15 f_g20 (by decide)
                                  clear e
                                  exact f_g21
                                · exact f_g20
                              · refine oP_let fun p17 e_p17 => ?_
                                refine oP_let fun g18 e => ?_
                                have f_g18 : fY (qQ0 g0) g0 g18 := by rw [e, e_p17]; exact fY_tr f_g17 fn8_y
                                clear e
                                exact f_g18
                        · refine oP_let fun p17 e_p17 => ?_
                          refine oP_let fun g18 e => ?_
                          have f_g18 : fY (qQ0 g0) g0 g18 := by rw [e, e_p17]; exact fY_tr f_g17 fn8_y
                          clear e
                          exact f_g18
                      · exact f_g15
                  · refine oP_let fun p13 e_p13 => ?_
                    refine oP_let fun g14 e => ?_
                    have f_g14 : fY (qQ0 g0) g0 g14 := by rw [e, e_p13]; exact fY_tr f_g13 fn8_y
                    clear e
                    exact f_g14
                · exact f_g12
              · refine oP_let fun p11 e_p11 => ?_
                refine oP_let fun g12 e => ?_
                have f_g12 : fY (qQ0 g0) g0 g12 := by rw [e, e_p11]; exact fY_g f_g11 fn40_y
                clear e
                refine oP_ite (fun hb => ?_) (fun hb => ?_)
                · exact f_g12
                · exact f_g12
            · refine oP_let fun p10 e_p10 => ?_
              refine oP_let fun g11 e => ?_
              have f_g11 : fY (qQ0 g0) g0 g11 := by rw [e, e_p10]; exact fY_tr f_g10 fn9_y
              clear e
              refine oP_let fun p11 e_p11 => ?_
              refine oP_let fun g12 e => ?_
              have f_g12 : fY (qQ0 g0) g0 g12 := by rw [e, e_p11]; exact fY_g f_g11 fn40_y
              clear e
              exact f_g12
        · exact f_g6
    · refine oP_let fun g5 e => ?_
      have f_g5 : fY (qQ0 g0) g0 g5 := by rw [e]; exact fY_15 f_g4 (by decide)
      clear e
      refine oP_let fun p5 e_p5 => ?_
      refine oP_let fun g6 e => ?_
      have f_g6 : fY (qQ0 g0) g0 g6 := by rw [e, e_p5]; exact fY_tr f_g5 fn23_y
      clear e
      refine oP_ite (fun hb => ?_) (fun hb => ?_)
      · refine oP_let fun p6 e_p6 => ?_
        refine oP_let fun g7 e => ?_
        have f_g7 : fY (qQ0 g0) g0 g7 := by rw [e, e_p6]; exact fY_tr f_g6 fn7_y
        clear e
        refine oP_dl ?_
        refine oP_let fun p7 e_p7 => ?_
        refine oP_let fun g8 e => ?_
        have f_g8 : fY (qQ0 g0) g0 g8 := by rw [e, e_p7]; exact fY_tr f_g7 fn6_y
        clear e
        refine oP_ite (fun hb => ?_) (fun hb => ?_)
        · refine oP_dl ?_
          refine oP_ite (fun hb => ?_) (fun hb => ?_)
          · refine oP_let fun p8 e_p8 => ?_
            refine oP_let fun g9 e => ?_
            have f_g9 : fY (qQ0 g0) g0 g9 := by rw [e, e_p8]; exact fY_tr f_g8 fn8_y
            clear e
            exact f_g9
          · refine oP_let fun p8 e_p8 => ?_
            refine oP_let fun g9 e => ?_
            have f_g9 : fY (qQ0 g0) g0 g9 := by rw [e, e_p8]; exact fY_g f_g8 fn41_y
            clear e
            refine oP_ite (fun hb => ?_) (fun hb => ?_)
            · exact f_g9
            · exact f_g9
        · refine oP_let fun p8 e_p8 => ?_
          refine oP_let fun g9 e => ?_
          have f_g9 : fY (qQ0 g0) g0 g9 := by rw [e, e_p8]; exact fY_tr f_g8 fn8_y
          clear e
          exact f_g9
      · exact f_g6
  · refine oP_let fun p4 e_p4 => ?_
    refine oP_let fun g5 e => ?_
    have f_g5 : fY (qQ0 g0) g0 g5 := by rw [e, e_p4]; exact fY_tr f_g4 fn9_y
    clear e
    refine oP_let fun p5 e_p5 => ?_
    refine oP_let fun g6 e => ?_
    have f_g6 : fY (qQ0 g0) g0 g6 := by rw [e, e_p5]; exact fY_tr f_g5 fn20_y
    clear e
    exact f_g6
theorem fn37_y {x : List Int} {g0 : rHp} : fY (qQ0 g0) g0 (fn37 x g0).2.2 := by
  have f_g0 : fY (qQ0 g0) g0 g0 := fY_refl
  show oP (fun h => fY (qQ0 g0) g0 h) (fn37 x g0)
  unfold fn37
  refine oP_dl ?_
  refine oP_dl ?_
  refine oP_dl ?_
  refine oP_dl ?_
  refine oP_dl ?_
  refine oP_let fun p0 e_p0 => ?_
  refine oP_let fun g1 e => ?_
  have f_g1 : fY (qQ0 g0) g0 g1 := by rw [e, e_p0]; exact fY_tr f_g0 fn7_y
  clear e
  refine oP_dl ?_
  refine oP_let fun p1 e_p1 => ?_
  refine oP_let fun g2 e => ?_
  have f_g2 : fY (qQ0 g0) g0 g2 := by rw [e, e_p1]; exact fY_tr f_g1 fn33_y
  clear e
  refine oP_let fun g3 e => ?_
  have f_g3 : fY (qQ0 g0) g0 g3 := by rw [e]; exact fY_7 f_g2 (by decide) (Int.le_refl _)
  clear e
  refine oP_let fun p3 e_p3 => ?_
  refine oP_let fun g4 e => ?_
  have f_g4 : fY (qQ0 g0) g0 g4 := by rw [e, e_p3]; exact fY_tr f_g3 fn6_y
  clear e
  refine oP_ite (fun hb => ?_) (fun hb => ?_)
  · refine oP_dl ?_
    refine oP_ite (fun hb => ?_) (fun hb => ?_)
    · refine oP_let fun p4 e_p4 => ?_
      refine oP_let fun g5 e => ?_
      have f_g5 : fY (qQ0 g0) g0 g5 := by rw [e, e_p4]; exact fY_tr f_g4 fn9_y
      clear e
      refine oP_ite (fun hb => ?_) (fun hb => ?_)
      · refine oP_let fun p5 e_p5 => ?_
        refine oP_let fun g6 e => ?_
        have f_g6 : fY (qQ0 g0) g0 g6 := by rw [e, e_p5]; exact fY_tr f_g5 fn12_y
        clear e
        refine oP_ite (fun hb => ?_) (fun hb => ?_)
        · refine oP_let fun p6 e_p6 => ?_
          refine oP_let fun g7 e => ?_
          have f_g7 : fY (qQ0 g0) g0 g7 := by rw [e, e_p6]; exact fY_tr f_g6 fn7_y
          clear e
          refine oP_dl ?_
          refine oP_let fun p7 e_p7 => ?_
          refine oP_let fun g8 e => ?_
          have f_g8 : fY (qQ0 g0) g0 g8 := by rw [e, e_p7]; exact fY_tr f_g7 fn6_y
          clear e
          refine oP_ite (fun hb => ?_) (fun hb => ?_)
          · refine oP_dl ?_
            refine oP_ite (fun hb => ?_) (fun hb => ?_)
            · refine oP_let fun p8 e_p8 => ?_
              refine oP_let fun g9 e => ?_
              have f_g9 : fY (qQ0 g0) g0 g9 := by rw [e, e_p8]; exact fY_tr f_g8 fn15_y
              clear e
              refine oP_dl ?_
              refine oP_let fun g10 e => ?_
              have f_g10 : fY (qQ0 g0) g0 g10 := by rw [e]; exact fY_15 f_g9 (by decide)
              clear e
              refine oP_let fun g11 e => ?_
              have f_g11 : fY (qQ0 g0) g0 g11 := by rw [e]; exact fY_15 f_g10 (by decide)
              clear e
              refine oP_let fun g12 e => ?_
              have f_g12 : fY (qQ0 g0) g0 g12 := by rw [e]; exact fY_8 f_g11 (by decide) (by omega)
              clear e
              refine oP_let fun g13 e => ?_
              have f_g13 : fY (qQ0 g0) g0 g13 := by rw [e]; exact fY_8 f_g12 (by decide) (by omega)
              clear e
              refine oP_let fun p13 e_p13 => ?_
              refine oP_let fun g14 e => ?_
              have f_g14 : fY (qQ0 g0) g0 g14 := by rw [e, e_p13]; exact fY_tr f_g13 fn7_y
              clear e
              refine oP_let fun p14 e_p14 => ?_
              refine oP_let fun g15 e => ?_
              have f_g15 : fY (qQ0 g0) g0 g15 := by rw [e, e_p14]; exact fY_g f_g14 fn35_y
              clear e
              refine oP_ite (fun hb => ?_) (fun hb => ?_)
              · exact f_g15
              · exact f_g15
            · refine oP_let fun p8 e_p8 => ?_
              refine oP_let fun g9 e => ?_
              have f_g9 : fY (qQ0 g0) g0 g9 := by rw [e, e_p8]; exact fY_g f_g8 fn36_y
              clear e
              refine oP_ite (fun hb => ?_) (fun hb => ?_)
              · exact f_g9
              · exact f_g9
          · refine oP_let fun p8 e_p8 => ?_
            refine oP_let fun g9 e => ?_
            have f_g9 : fY (qQ0 g0) g0 g9 := by rw [e, e_p8]; exact fY_tr f_g8 fn15_y
            clear e
            refine oP_dl ?_
            refine oP_let fun g10 e => ?_
            have f_g10 : fY (qQ0 g0) g0 g10 := by rw [e]; exact fY_15 f_g9 (by decide)
            clear e
            refine oP_let fun g11 e => ?_
            have f_g11 : fY (qQ0 g0) g0 g11 := by rw [e]; exact fY_15 f_g10 (by decide)
            clear e
            refine oP_let fun g12 e => ?_
            have f_g12 : fY (qQ0 g0) g0 g12 := by rw [e]; exact fY_8 f_g11 (by decide) (by omega)
            clear e
            refine oP_let fun g13 e => ?_
            have f_g13 : fY (qQ0 g0) g0 g13 := by rw [e]; exact fY_8 f_g12 (by decide) (by omega)
            clear e
            refine oP_let fun p13 e_p13 => ?_
            refine oP_let fun g14 e => ?_
            have f_g14 : fY (qQ0 g0) g0 g14 := by rw [e, e_p13]; exact fY_tr f_g13 fn7_y
            clear e
            refine oP_let fun p14 e_p14 => ?_
            refine oP_let fun g15 e => ?_
            have f_g15 : fY (qQ0 g0) g0 g15 := by rw [e, e_p14]; exact fY_g f_g14 fn35_y
            clear e
            exact f_g15
        · exact f_g6
      · refine oP_let fun p5 e_p5 => ?_
        refine oP_let fun g6 e => ?_
        have f_g6 : fY (qQ0 g0) g0 g6 := by rw [e, e_p5]; exact fY_tr f_g5 fn20_y
        clear e
        refine oP_ite (fun hb => ?_) (fun hb => ?_)
        · refine oP_dl ?_
          refine oP_dl ?_
          refine oP_let fun g7 e => ?_
          have f_g7 : fY (qQ0 g0) g0 g7 := by rw [e]; exact fY_8 f_g6 (by decide) (by omega)
          clear e
          refine oP_let fun g8 e => ?_
          have f_g8 : fY (qQ0 g0) g0 g8 := by rw [e]; exact fY_8 f_g7 (by decide) (by omega)
          clear e
          refine oP_let fun p8 e_p8 => ?_
          refine oP_let fun g9 e => ?_
          have f_g9 : fY (qQ0 g0) g0 g9 := by rw [e, e_p8]; exact fY_tr f_g8 fn7_y
          clear e
          refine oP_dl ?_
          refine oP_ite (fun hb => ?_) (fun hb => ?_)
          · refine oP_let fun p9 e_p9 => ?_
            refine oP_let fun g10 e => ?_
            have f_g10 : fY (qQ0 g0) g0 g10 := by rw [e, e_p9]; exact fY_g f_g9 fn35_y
            clear e
            refine oP_ite (fun hb => ?_) (fun hb => ?_)
            · exact f_g10
            · exact f_g10
          · refine oP_let fun p9 e_p9 => ?_
            refine oP_let fun g10 e => ?_
            have f_g10 : fY (qQ0 g0) g0 g10 := by rw [e, e_p9]; exact fY_tr f_g9 fn6_y
            clear e
            refine oP_ite (fun hb => ?_) (fun hb => ?_)
            · refine oP_dl ?_
              refine oP_let fun p10 e_p10 => ?_
              refine oP_let fun g11 e => ?_
              have f_g11 : fY (qQ0 g0) g0 g11 := by rw [e, e_p10]; exact fY_tr f_g10 fn9_y
              clear e
              refine oP_ite (fun hb => ?_) (fun hb => ?_)
              · refine oP_let fun p11 e_p11 => ?_
                refine oP_let fun g12 e => ?_
                have f_g12 : fY (qQ0 g0) g0 g12 := by rw [e, e_p11]; exact fY_tr f_g11 fn12_y
                clear e
                refine oP_ite (fun hb => ?_) (fun hb => ?_)
                · refine oP_let fun p12 e_p12 => ?_
                  refine oP_let fun g13 e => ?_
                  have f_g13 : fY (qQ0 g0) g0 g13 := by rw [e, e_p12]; exact fY_tr f_g12 fn13_y
                  clear e
                  refine oP_ite (fun hb => ?_) (fun hb => ?_)
                  · refine oP_let fun p13 e_p13 => ?_
                    refine oP_let fun g14 e => ?_
                    have f_g14 : fY (qQ0 g0) g0 g14 := by rw [e, e_p13]; exact fY_tr f_g13 fn18_y
                    clear e
                    refine oP_ite (fun hb => ?_) (fun hb => ?_)
                    · refine oP_let fun p14 e_p14 => ?_
                      refine oP_let fun g15 e => ?_
                      have f_g15 : fY (qQ0 g0) g0 g15 := by rw [e, e_p14]; exact fY_tr f_g14 fn8_y
                      clear e
                      exact f_g15
                    · refine oP_let fun p14 e_p14 => ?_
                      refine oP_let fun g15 e => ?_
                      have f_g15 : fY (qQ0 g0) g0 g15 := by rw [e, e_p14]; exact fY_g f_g14 (fn34_y (by decide))
                      clear e
                      refine oP_ite (fun hb => ?_) (fun hb => ?_)
                      · refine oP_let fun p15 e_p15 => ?_
                        refine oP_let fun g16 e => ?_
                        have f_g16 : fY (qQ0 g0) g0 g16 := by rw [e, e_p15]; exact fY_tr f_g15 fn7_y
                        clear e
                        refine oP_dl ?_
                        refine oP_let fun p16 e_p16 => ?_
                        refine oP_let fun g17 e => ?_
                        have f_g17 : fY (qQ0 g0) g0 g17 := by rw [e, e_p16]; exact fY_tr f_g16 fn6_y
                        clear e
                        refine oP_ite (fun hb => ?_) (fun hb => ?_)
                        · refine oP_dl ?_
                          refine oP_ite (fun hb => ?_) (fun hb => ?_)
                          · refine oP_let fun g18 e => ?_
                            have f_g18 : fY (qQ0 g0) g0 g18 := by rw [e]; exact fY_15 f_g17 (by decide)
                            clear e
                            refine oP_let fun g19 e => ?_
                            have f_g19 : fY (qQ0 g0) g0 g19 := by rw [e]; exact fY_7 f_g18 (by decide) (Int.le_refl _)
                            clear e
                            refine oP_let fun p19 e_p19 => ?_
                            refine oP_let fun g20 e => ?_
                            have f_g20 : fY (qQ0 g0) g0 g20 := by rw [e, e_p19]; exact fY_g f_g19 (fn34_y (by decide))
                            clear e
                            refine oP_ite (fun hb => ?_) (fun hb => ?_)
                            · refine oP_dl ?_
                              refine oP_dl ?_
                              refine oP_let fun g21 e => ?_
                              have f_g21 : fY (qQ0 g0) g0 g21 := by rw [e]; exact fY_15 f_g20 (by decide)
                              clear e
                              exact f_g21
                            · exact f_g20
                          · refine oP_ite (fun hb => ?_) (fun hb => ?_)
                            · refine oP_let fun g18 e => ?_
                              have f_g18 : fY (qQ0 g0) g0 g18 := by rw [e]; exact fY_15 f_g17 (by decide)
                              clear e
                              refine oP_let fun g19 e => ?_
                              have f_g19 : fY (qQ0 g0) g0 g19 := by rw [e]; exact fY_7 f_g18 (by decide) (Int.le_refl _)
                              clear e
                              refine oP_let fun p19 e_p19 => ?_
                              refine oP_let fun g20 e => ?_
                              have f_g20 : fY (qQ0 g0) g0 g20 := by rw [e, e_p19]; exact fY_g f_g19 (fn34_y (by decide))
                              clear e
                              refine oP_ite (fun hb => ?_) (fun hb => ?_)
                              · refine oP_dl ?_
                                refine oP_dl ?_
                                refine oP_let fun g21 e => ?_
                                have f_g21 : fY (qQ0 g0) g0 g21 := by rw [e]; exact fY_15 f_g20 (by decide)
                                clear e
                                exact f_g21
                              · exact f_g20
                            · refine oP_ite (fun hb => ?_) (fun hb => ?_)
                              · refine oP_let fun g18 e => ?_
                                have f_g18 : fY (qQ0 g0) g0 g18 := by rw [e]; exact fY_15 f_g17 (by decide)
                                clear e
                                refine oP_let fun g19 e => ?_
                                have f_g19 : fY (qQ0 g0) g0 g19 := by rw [e]; exact fY_7 f_g18 (by decide) (Int.le_refl _)
                                clear e
                                refine oP_let fun p19 e_p19 => ?_
                                refine oP_let fun g20 e => ?_
                                have f_g20 : fY (qQ0 g0) g0 g20 := by rw [e, e_p19]; exact fY_g f_g19 (fn34_y (by decide))
                                clear e
                                refine oP_ite (fun hb => ?_) (fun hb => ?_)
                                · refine oP_dl ?_
                                  refine oP_dl ?_
                                  refine oP_let fun g21 e => ?_
                                  have f_g21 : fY (qQ0 g0) g0 g21 := by rw [e]; exact fY_15 f_g20 (by decide)
                                  clear e
                                  exact f_g21
                                · exact f_g20
                              · refine oP_let fun p17 e_p17 => ?_
                                refine oP_let fun g18 e => ?_
                                have f_g18 : fY (qQ0 g0) g0 g18 := by rw [e, e_p17]; exact fY_tr f_g17 fn8_y
                                clear e
                                exact f_g18
                        · refine oP_let fun p17 e_p17 => ?_
                          refine oP_let fun g18 e => ?_
                          have f_g18 : fY (qQ0 g0) g0 g18 := by rw [e, e_p17]; exact fY_tr f_g17 fn8_y
                          clear e
                          exact f_g18
                      · exact f_g15
                  · refine oP_let fun p13 e_p13 => ?_
                    refine oP_let fun g14 e => ?_
                    have f_g14 : fY (qQ0 g0) g0 g14 := by rw [e, e_p13]; exact fY_tr f_g13 fn8_y
                    clear e
                    exact f_g14
                · exact f_g12
              · refine oP_let fun p11 e_p11 => ?_
                refine oP_let fun g12 e => ?_
                have f_g12 : fY (qQ0 g0) g0 g12 := by rw [e, e_p11]; exact fY_g f_g11 fn35_y
                clear e
                refine oP_ite (fun hb => ?_) (fun hb => ?_)
                · exact f_g12
                · exact f_g12
            · refine oP_let fun p10 e_p10 => ?_
              refine oP_let fun g11 e => ?_
              have f_g11 : fY (qQ0 g0) g0 g11 := by rw [e, e_p10]; exact fY_tr f_g10 fn9_y
              clear e
              refine oP_let fun p11 e_p11 => ?_
              refine oP_let fun g12 e => ?_
              have f_g12 : fY (qQ0 g0) g0 g12 := by rw [e, e_p11]; exact fY_g f_g11 fn35_y
              clear e
              exact f_g12
        · exact f_g6
    · refine oP_let fun g5 e => ?_
      have f_g5 : fY (qQ0 g0) g0 g5 := by rw [e]; exact fY_15 f_g4 (by decide)
      clear e
      refine oP_let fun p5 e_p5 => ?_
      refine oP_let fun g6 e => ?_
      have f_g6 : fY (qQ0 g0) g0 g6 := by rw [e, e_p5]; exact fY_tr f_g5 fn23_y
      clear e
      refine oP_ite (fun hb => ?_) (fun hb => ?_)
      · refine oP_let fun p6 e_p6 => ?_
        refine oP_let fun g7 e => ?_
        have f_g7 : fY (qQ0 g0) g0 g7 := by rw [e, e_p6]; exact fY_tr f_g6 fn7_y
        clear e
        refine oP_dl ?_
        refine oP_let fun p7 e_p7 => ?_
        refine oP_let fun g8 e => ?_
        have f_g8 : fY (qQ0 g0) g0 g8 := by rw [e, e_p7]; exact fY_tr f_g7 fn6_y
        clear e
        refine oP_ite (fun hb => ?_) (fun hb => ?_)
        · refine oP_dl ?_
          refine oP_ite (fun hb => ?_) (fun hb => ?_)
          · refine oP_let fun p8 e_p8 => ?_
            refine oP_let fun g9 e => ?_
            have f_g9 : fY (qQ0 g0) g0 g9 := by rw [e, e_p8]; exact fY_tr f_g8 fn8_y
            clear e
            exact f_g9
          · refine oP_let fun p8 e_p8 => ?_
            refine oP_let fun g9 e => ?_
            have f_g9 : fY (qQ0 g0) g0 g9 := by rw [e, e_p8]; exact fY_g f_g8 fn36_y
            clear e
            refine oP_ite (fun hb => ?_) (fun hb => ?_)
            · exact f_g9
            · exact f_g9
        · refine oP_let fun p8 e_p8 => ?_
          refine oP_let fun g9 e => ?_
          have f_g9 : fY (qQ0 g0) g0 g9 := by rw [e, e_p8]; exact fY_tr f_g8 fn8_y
          clear e
          exact f_g9
      · exact f_g6
  · refine oP_let fun p4 e_p4 => ?_
    refine oP_let fun g5 e => ?_
    have f_g5 : fY (qQ0 g0) g0 g5 := by rw [e, e_p4]; exact fY_tr f_g4 fn9_y
    clear e
    refine oP_let fun p5 e_p5 => ?_
    refine oP_let fun g6 e => ?_
    have f_g6 : fY (qQ0 g0) g0 g6 := by rw [e, e_p5]; exact fY_tr f_g5 fn20_y
    clear e
    exact f_g6
