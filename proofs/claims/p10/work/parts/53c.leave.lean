/-! ===== what a question leaves as it is, by the class ===== -/
noncomputable def fX (g g_q : rHp) : Prop := (∃ j, g_q 40 0 j ≠ 0) → g_q 40 = g 40 ∧ (g 6 0 9 = 2 → (∀ K : Nat, K ∉ [6, 8, 37, 38, 41] → g_q K = g K) ∧ (g_q 6 0 6 = g 6 0 6 ∧ g_q 6 0 9 = 2) ∧ (∀ h, h ≠ g 6 0 6 → g_q 8 h = g 8 h ∧ g_q 41 h = g 41 h) ∧ ∀ h j, j ≠ 1 → g_q 8 h j = g 8 h j)
theorem fX_refl {g : rHp} : fX g g := fun _ => ⟨rfl, fun w => ⟨fun _ _ => rfl, ⟨rfl, w⟩, fun _ _ => ⟨rfl, rfl⟩, fun _ _ _ => rfl⟩⟩
theorem fX_zero {g : rHp} : fX g (fun _ _ _ => 0) := fun ⟨_, h⟩ => absurd rfl h
theorem fX_tr {a b c : rHp} (h1 : fX a b) (h2 : fX b c) : fX a c := fun z => by
  obtain ⟨b0, b9⟩ := h2 z
  obtain ⟨a0, a9⟩ := h1 (by rw [← b0]; exact z)
  refine ⟨b0.trans a0, fun w => ?_⟩
  obtain ⟨a1, ⟨a2, a3⟩, a4, a5⟩ := a9 w
  obtain ⟨b1, ⟨b2, b3⟩, b4, b5⟩ := b9 a3
  exact ⟨fun K q => (b1 K q).trans (a1 K q), ⟨b2.trans a2, b3⟩, fun h q => ⟨(b4 h (by rw [a2]; exact q)).1.trans (a4 h q).1, (b4 h (by rw [a2]; exact q)).2.trans (a4 h q).2⟩, fun h j q => (b5 h j q).trans (a5 h j q)⟩
theorem fX_up {a b : rHp} {K : Nat} {o j v : Int} (h : fX a b) (hK : K = 37 ∨ K = 38) : fX a (rUp b K o j v) := by
  unfold fX
  rw [rUp_grp (show (40 : Nat) ≠ K by omega), rUp_grp (show (6 : Nat) ≠ K by omega), rUp_grp (show (8 : Nat) ≠ K by omega), rUp_grp (show (41 : Nat) ≠ K by omega)]
  intro z
  obtain ⟨h0, h9⟩ := h z
  refine ⟨h0, fun w => ⟨fun i q => ?_, (h9 w).2⟩⟩
  rw [rUp_grp (by rintro rfl; rcases hK with rfl | rfl <;> exact absurd q (by decide))]
  exact (h9 w).1 i q
theorem fX_6 {a b : rHp} {j v : Int} (h : fX a b) (hj : j ≠ 6 ∧ j ≠ 9) : fX a (rUp b 6 0 j v) := by
  unfold fX
  rw [rUp_grp (show (40 : Nat) ≠ 6 by decide), rUp_grp (show (8 : Nat) ≠ 6 by decide), rUp_grp (show (41 : Nat) ≠ 6 by decide), rUp_ne (show ¬ ((6 : Nat) = 6 ∧ (0 : Int) = 0 ∧ (6 : Int) = j) from fun w => hj.1 w.2.2.symm), rUp_ne (show ¬ ((6 : Nat) = 6 ∧ (0 : Int) = 0 ∧ (9 : Int) = j) from fun w => hj.2 w.2.2.symm)]
  intro z
  obtain ⟨h0, h9⟩ := h z
  refine ⟨h0, fun w => ⟨fun i q => ?_, (h9 w).2⟩⟩
  rw [rUp_grp (by rintro rfl; exact absurd q (by decide))]
  exact (h9 w).1 i q
theorem fn242_xq {g0 : rHp} (w : g0 6 0 9 = 2) : (∀ K : Nat, K ∉ [6, 8, 37, 38, 41] → (fn242 [g0 6 0 6] g0).2.2 K = g0 K) ∧ ((fn242 [g0 6 0 6] g0).2.2 6 0 6 = g0 6 0 6 ∧ (fn242 [g0 6 0 6] g0).2.2 6 0 9 = 2) ∧ (∀ h, h ≠ g0 6 0 6 → (fn242 [g0 6 0 6] g0).2.2 8 h = g0 8 h ∧ (fn242 [g0 6 0 6] g0).2.2 41 h = g0 41 h) ∧ ∀ h j, j ≠ 1 → (fn242 [g0 6 0 6] g0).2.2 8 h j = g0 8 h j := by
  have e : ∀ g_q : rHp, g_q = (fn242 [g0 6 0 6] g0).2.2 → (∀ K : Nat, K ∉ [6, 8, 37, 38, 41] → g_q K = g0 K) ∧ (g_q 6 0 6 = g0 6 0 6 ∧ g_q 6 0 9 = 2) ∧ (∀ h, h ≠ g0 6 0 6 → g_q 8 h = g0 8 h ∧ g_q 41 h = g0 41 h) ∧ ∀ h j, j ≠ 1 → g_q 8 h j = g0 8 h j := by
    intro g_q
    unfold fn242
    simp only [zLet, List.getD_cons_zero]
    by_cases b : g0 8 (g0 6 0 6) 1 ≥ 100
    · rw [if_pos b]
      intro e
      have e : g_q = rUp g0 8 (g0 6 0 6) 1 (g0 8 (g0 6 0 6) 1 + 1) := e
      rw [e]
      refine ⟨fun K q => rUp_grp (by rintro rfl; exact absurd q (by decide)), ⟨by rw [rUp_grp (by decide)], by rw [rUp_grp (by decide)]; exact w⟩, fun h q => ⟨?_, by rw [rUp_grp (by decide)]⟩, fun h j q => rUp_ne (fun y => q y.2.2)⟩
      funext j
      exact rUp_ne (fun y => q y.2.1)
    · rw [if_neg b]
      intro e
      have e : g_q = rUp (zCpy g0 37 0 0 41 (g0 6 0 6) (8 * g0 8 (g0 6 0 6) 1) 8) 8 (g0 6 0 6) 1 (g0 8 (g0 6 0 6) 1 + 1) := e
      rw [e]
      refine ⟨fun K q => by rw [rUp_grp (by rintro rfl; exact absurd q (by decide)), zCpy_grp (by rintro rfl; exact absurd q (by decide))], ⟨by rw [rUp_grp (by decide), zCpy_grp (by decide)], by rw [rUp_grp (by decide), zCpy_grp (by decide)]; exact w⟩, fun h q => ⟨?_, ?_⟩, fun h j q => by rw [rUp_ne (fun y => q y.2.2), zCpy_grp (by decide)]⟩
      · funext j
        rw [rUp_ne (fun y => q y.2.1), zCpy_grp (by decide)]
      · funext j
        rw [rUp_grp (by decide)]
        exact if_neg (fun y => q y.2.1)
  exact e _ rfl
theorem fn244_xq {x : List Int} {g0 : rHp} : fX g0 (fn244 x g0).2.2 := fun z => ⟨((fn244_z (x := x) (g0 := g0)).2 z).2, fun w => by
  have e : fn244 x g0 = (0, 0, (fn242 [g0 6 0 6] g0).2.2) := by
    unfold fn244 dn244
    simp only [zLet]
    rw [if_neg (show ¬ g0 6 0 9 ≠ 2 from fun q => q w)]
    rfl
  rw [e]
  exact fn242_xq w⟩
theorem fn132_xq {x : List Int} {g0 : rHp} : fX g0 (fn132 x g0).2.2 := by
  have f_g0 : fX g0 g0 := fX_refl
  show oP (fun h => fX g0 h) (fn132 x g0)
  unfold fn132
  refine oP_dl ?_
  refine oP_dl ?_
  exact f_g0
theorem fn172_xq {x : List Int} {g0 : rHp} : fX g0 (fn172 x g0).2.2 := by
  have f_g0 : fX g0 g0 := fX_refl
  show oP (fun h => fX g0 h) (fn172 x g0)
  unfold fn172
  refine oP_dl ?_
  refine oP_ite (fun hb => ?_) (fun hb => ?_)
  · exact f_g0
  · exact f_g0
theorem fn187_xq {x : List Int} {g0 : rHp} : fX g0 (fn187 x g0).2.2 := by
  have f_g0 : fX g0 g0 := fX_refl
  show oP (fun h => fX g0 h) (fn187 x g0)
  unfold fn187
  refine oP_dl ?_
  refine oP_dl ?_
  refine oP_dl ?_
  refine oP_dl ?_
  exact f_g0
theorem fn188_xq {x : List Int} {g0 : rHp} : fX g0 (fn188 x g0).2.2 := by
  have f_g0 : fX g0 g0 := fX_refl
  show oP (fun h => fX g0 h) (fn188 x g0)
  unfold fn188
  refine oP_dl ?_
  refine oP_ite (fun hb => ?_) (fun hb => ?_)
  · exact f_g0
  · refine oP_ite (fun hb => ?_) (fun hb => ?_)
    · exact f_g0
    · refine oP_dl ?_
      exact f_g0
theorem fn191_xq {x : List Int} {g0 : rHp} : fX g0 (fn191 x g0).2.2 := by
  have f_g0 : fX g0 g0 := fX_refl
  show oP (fun h => fX g0 h) (fn191 x g0)
  unfold fn191
  refine oP_dl ?_
  refine oP_dl ?_
  refine oP_dl ?_
  refine oP_dl ?_
  exact f_g0
theorem fn192_xq {x : List Int} {g0 : rHp} : fX g0 (fn192 x g0).2.2 := by
  have f_g0 : fX g0 g0 := fX_refl
  show oP (fun h => fX g0 h) (fn192 x g0)
  unfold fn192
  refine oP_dl ?_
  refine oP_ite (fun hb => ?_) (fun hb => ?_)
  · exact f_g0
  · refine oP_ite (fun hb => ?_) (fun hb => ?_)
    · exact f_g0
    · refine oP_dl ?_
      exact f_g0
theorem fn204_xq {x : List Int} {g0 : rHp} : fX g0 (fn204 x g0).2.2 := by
  have f_g0 : fX g0 g0 := fX_refl
  show oP (fun h => fX g0 h) (fn204 x g0)
  unfold fn204
  refine oP_dl ?_
  refine oP_dl ?_
  refine oP_dl ?_
  refine oP_dl ?_
  refine oP_dl ?_
  refine oP_dl ?_
  refine oP_dl ?_
  exact f_g0
theorem fn224_xq {x : List Int} {g0 : rHp} : fX g0 (fn224 x g0).2.2 := by
  have f_g0 : fX g0 g0 := fX_refl
  show oP (fun h => fX g0 h) (fn224 x g0)
  unfold fn224
  refine oP_dl ?_
  refine oP_dl ?_
  refine oP_dl ?_
  refine oP_ite (fun hb => ?_) (fun hb => ?_)
  · refine oP_dl ?_
    exact f_g0
  · refine oP_dl ?_
    refine oP_dl ?_
    exact f_g0
theorem fn232_xq {x : List Int} {g0 : rHp} : fX g0 (fn232 x g0).2.2 := by
  have f_g0 : fX g0 g0 := fX_refl
  show oP (fun h => fX g0 h) (fn232 x g0)
  unfold fn232
  refine oP_dl ?_
  refine oP_dl ?_
  refine oP_dl ?_
  refine oP_dl ?_
  refine oP_let fun g1 e => ?_
  have f_g1 : fX g0 g1 := by rw [e]; exact fX_6 f_g0 (by decide)
  clear e
  refine oP_ite (fun hb => ?_) (fun hb => ?_)
  · refine oP_let fun g2 e => ?_
    have f_g2 : fX g0 g2 := by rw [e]; exact fX_up f_g1 (by decide)
    clear e
    exact f_g2
  · exact f_g1
theorem fn245_xq {x : List Int} {g0 : rHp} : fX g0 (fn245 x g0).2.2 := by
  have f_g0 : fX g0 g0 := fX_refl
  show oP (fun h => fX g0 h) (fn245 x g0)
  unfold fn245
  refine oP_let fun p0 e_p0 => ?_
  refine oP_let fun g1 e => ?_
  have f_g1 : fX g0 g1 := by rw [e, e_p0]; exact fX_tr f_g0 fn244_xq
  clear e
  refine oP_ite (fun hb => ?_) (fun hb => ?_)
  · exact f_g1
  · exact f_g1
theorem fn208_xq {x : List Int} {g0 : rHp} : fX g0 (fn208 x g0).2.2 := by
  have f_g0 : fX g0 g0 := fX_refl
  refine zGoo_P (I := fun s => fX g0 s.2.2) fX_zero (fun s hs => ?_) ?_
  · unfold en208
    refine oS_ite (fun hb => ?_) (fun hb => ?_)
    · refine oS_let fun g1 e => ?_
      have f_g1 : fX g0 g1 := by rw [e]; exact hs
      clear e
      refine oS_dl ?_
      refine oS_dl ?_
      refine oS_dl ?_
      refine oS_dl ?_
      refine oS_ite (fun hb => ?_) (fun hb => ?_)
      · exact f_g1
      · refine oS_dl ?_
        refine oS_ite (fun hb => ?_) (fun hb => ?_)
        · exact f_g1
        · exact f_g1
    · exact f_g0
  · unfold dn208
    refine oS_dl ?_
    refine oS_dl ?_
    refine oS_ite (fun hb => ?_) (fun hb => ?_)
    · exact f_g0
    · refine oS_let fun p0 e_p0 => ?_
      refine oS_let fun g1 e => ?_
      have f_g1 : fX g0 g1 := by rw [e, e_p0]; exact fX_tr f_g0 fn187_xq
      clear e
      refine oS_dl ?_
      exact f_g1
theorem fn209_xq {x : List Int} {g0 : rHp} : fX g0 (fn209 x g0).2.2 := by
  have f_g0 : fX g0 g0 := fX_refl
  show oP (fun h => fX g0 h) (fn209 x g0)
  unfold fn209
  refine oP_dl ?_
  refine oP_let fun p0 e_p0 => ?_
  refine oP_let fun g1 e => ?_
  have f_g1 : fX g0 g1 := by rw [e, e_p0]; exact fX_tr f_g0 fn188_xq
  clear e
  refine oP_dl ?_
  exact f_g1
theorem fn210_xq {x : List Int} {g0 : rHp} : fX g0 (fn210 x g0).2.2 := by
  have f_g0 : fX g0 g0 := fX_refl
  refine zGoo_P (I := fun s => fX g0 s.2.2) fX_zero (fun s hs => ?_) ?_
  · unfold en210
    refine oS_ite (fun hb => ?_) (fun hb => ?_)
    · refine oS_let fun g1 e => ?_
      have f_g1 : fX g0 g1 := by rw [e]; exact hs
      clear e
      refine oS_dl ?_
      refine oS_dl ?_
      refine oS_dl ?_
      refine oS_dl ?_
      refine oS_ite (fun hb => ?_) (fun hb => ?_)
      · exact f_g1
      · refine oS_ite (fun hb => ?_) (fun hb => ?_)
        · exact f_g1
        · refine oS_dl ?_
          refine oS_ite (fun hb => ?_) (fun hb => ?_)
          · refine oS_let fun p1 e_p1 => ?_
            refine oS_let fun g2 e => ?_
            have f_g2 : fX g0 g2 := by rw [e, e_p1]; exact fX_tr f_g1 fn192_xq
            clear e
            refine oS_dl ?_
            exact f_g2
          · refine oS_dl ?_
            exact f_g1
    · exact f_g0
  · unfold dn210
    refine oS_dl ?_
    refine oS_dl ?_
    exact f_g0
theorem fn225_xq {x : List Int} {g0 : rHp} : fX g0 (fn225 x g0).2.2 := by
  have f_g0 : fX g0 g0 := fX_refl
  refine zGoo_P (I := fun s => fX g0 s.2.2) fX_zero (fun s hs => ?_) ?_
  · unfold en225
    refine oS_ite (fun hb => ?_) (fun hb => ?_)
    · refine oS_let fun g1 e => ?_
      have f_g1 : fX g0 g1 := by rw [e]; exact hs
      clear e
      refine oS_dl ?_
      refine oS_dl ?_
      refine oS_dl ?_
      refine oS_dl ?_
      refine oS_ite (fun hb => ?_) (fun hb => ?_)
      · exact f_g1
      · refine oS_dl ?_
        refine oS_dl ?_
        refine oS_ite (fun hb => ?_) (fun hb => ?_)
        · refine oS_ite (fun hb => ?_) (fun hb => ?_)
          · exact f_g1
          · refine oS_let fun p1 e_p1 => ?_
            refine oS_let fun g2 e => ?_
            have f_g2 : fX g0 g2 := by rw [e, e_p1]; exact fX_tr f_g1 fn224_xq
            clear e
            refine oS_dl ?_
            refine oS_ite (fun hb => ?_) (fun hb => ?_)
            · exact f_g2
            · exact f_g2
        · refine oS_dl ?_
          refine oS_let fun g2 e => ?_
          have f_g2 : fX g0 g2 := by rw [e]; exact fX_up f_g1 (by decide)
          clear e
          exact f_g2
    · exact f_g0
  · unfold dn225
    refine oS_dl ?_
    refine oS_dl ?_
    refine oS_dl ?_
    refine oS_dl ?_
    refine oS_ite (fun hb => ?_) (fun hb => ?_)
    · exact f_g0
    · exact f_g0
theorem fn229_xq {x : List Int} {g0 : rHp} : fX g0 (fn229 x g0).2.2 := by
  have f_g0 : fX g0 g0 := fX_refl
  show oP (fun h => fX g0 h) (fn229 x g0)
  unfold fn229
  refine oP_dl ?_
  refine oP_dl ?_
  refine oP_let fun p0 e_p0 => ?_
  refine oP_let fun g1 e => ?_
  have f_g1 : fX g0 g1 := by rw [e, e_p0]; exact fX_tr f_g0 fn224_xq
  clear e
  refine oP_dl ?_
  refine oP_let fun p1 e_p1 => ?_
  refine oP_let fun g2 e => ?_
  have f_g2 : fX g0 g2 := by rw [e, e_p1]; exact fX_tr f_g1 fn224_xq
  clear e
  refine oP_dl ?_
  refine oP_ite (fun hb => ?_) (fun hb => ?_)
  · refine oP_ite (fun hb => ?_) (fun hb => ?_)
    · exact f_g2
    · exact f_g2
  · refine oP_ite (fun hb => ?_) (fun hb => ?_)
    · exact f_g2
    · exact f_g2
theorem fn230_xq {x : List Int} {g0 : rHp} : fX g0 (fn230 x g0).2.2 := by
  have f_g0 : fX g0 g0 := fX_refl
  show oP (fun h => fX g0 h) (fn230 x g0)
  unfold fn230
  refine oP_dl ?_
  refine oP_let fun p0 e_p0 => ?_
  refine oP_let fun g1 e => ?_
  have f_g1 : fX g0 g1 := by rw [e, e_p0]; exact fX_tr f_g0 fn224_xq
  clear e
  refine oP_dl ?_
  refine oP_let fun p1 e_p1 => ?_
  refine oP_let fun g2 e => ?_
  have f_g2 : fX g0 g2 := by rw [e, e_p1]; exact fX_tr f_g1 fn224_xq
  clear e
  refine oP_dl ?_
  refine oP_let fun p2 e_p2 => ?_
  refine oP_let fun g3 e => ?_
  have f_g3 : fX g0 g3 := by rw [e, e_p2]; exact fX_tr f_g2 fn172_xq
  clear e
  refine oP_ite (fun hb => ?_) (fun hb => ?_)
  · refine oP_let fun p3 e_p3 => ?_
    refine oP_let fun g4 e => ?_
    have f_g4 : fX g0 g4 := by rw [e, e_p3]; exact fX_tr f_g3 fn172_xq
    clear e
    refine oP_ite (fun hb => ?_) (fun hb => ?_)
    · refine oP_ite (fun hb => ?_) (fun hb => ?_)
      · exact f_g4
      · exact f_g4
    · exact f_g4
  · exact f_g3
theorem fn231_xq {x : List Int} {g0 : rHp} : fX g0 (fn231 x g0).2.2 := by
  have f_g0 : fX g0 g0 := fX_refl
  show oP (fun h => fX g0 h) (fn231 x g0)
  unfold fn231
  refine oP_dl ?_
  refine oP_dl ?_
  refine oP_dl ?_
  refine oP_let fun p0 e_p0 => ?_
  refine oP_let fun g1 e => ?_
  have f_g1 : fX g0 g1 := by rw [e, e_p0]; exact fX_tr f_g0 fn224_xq
  clear e
  refine oP_dl ?_
  refine oP_let fun p1 e_p1 => ?_
  refine oP_let fun g2 e => ?_
  have f_g2 : fX g0 g2 := by rw [e, e_p1]; exact fX_tr f_g1 fn224_xq
  clear e
  refine oP_dl ?_
  refine oP_let fun p2 e_p2 => ?_
  refine oP_let fun g3 e => ?_
  have f_g3 : fX g0 g3 := by rw [e, e_p2]; exact fX_tr f_g2 fn172_xq
  clear e
  refine oP_ite (fun hb => ?_) (fun hb => ?_)
  · refine oP_let fun p3 e_p3 => ?_
    refine oP_let fun g4 e => ?_
    have f_g4 : fX g0 g4 := by rw [e, e_p3]; exact fX_tr f_g3 fn172_xq
    clear e
    refine oP_ite (fun hb => ?_) (fun hb => ?_)
    · refine oP_ite (fun hb => ?_) (fun hb => ?_)
      · refine oP_ite (fun hb => ?_) (fun hb => ?_)
        · refine oP_dl ?_
          refine oP_let fun g5 e => ?_
          have f_g5 : fX g0 g5 := by rw [e]; exact fX_up f_g4 (by decide)
          clear e
          refine oP_ite (fun hb => ?_) (fun hb => ?_)
          · exact f_g5
          · refine oP_ite (fun hb => ?_) (fun hb => ?_)
            · exact f_g5
            · exact f_g5
        · refine oP_dl ?_
          refine oP_let fun g5 e => ?_
          have f_g5 : fX g0 g5 := by rw [e]; exact fX_up f_g4 (by decide)
          clear e
          refine oP_ite (fun hb => ?_) (fun hb => ?_)
          · exact f_g5
          · refine oP_ite (fun hb => ?_) (fun hb => ?_)
            · exact f_g5
            · exact f_g5
      · refine oP_dl ?_
        refine oP_let fun g5 e => ?_
        have f_g5 : fX g0 g5 := by rw [e]; exact fX_up f_g4 (by decide)
        clear e
        refine oP_ite (fun hb => ?_) (fun hb => ?_)
        · exact f_g5
        · refine oP_ite (fun hb => ?_) (fun hb => ?_)
          · exact f_g5
          · exact f_g5
    · exact f_g4
  · exact f_g3
theorem fn211_xq {x : List Int} {g0 : rHp} : fX g0 (fn211 x g0).2.2 := by
  have f_g0 : fX g0 g0 := fX_refl
  show oP (fun h => fX g0 h) (fn211 x g0)
  unfold fn211
  refine oP_dl ?_
  refine oP_dl ?_
  refine oP_dl ?_
  refine oP_let fun p0 e_p0 => ?_
  refine oP_let fun g1 e => ?_
  have f_g1 : fX g0 g1 := by rw [e, e_p0]; exact fX_tr f_g0 fn204_xq
  clear e
  refine oP_dl ?_
  refine oP_let fun p1 e_p1 => ?_
  refine oP_let fun g2 e => ?_
  have f_g2 : fX g0 g2 := by rw [e, e_p1]; exact fX_tr f_g1 fn191_xq
  clear e
  refine oP_dl ?_
  refine oP_let fun p2 e_p2 => ?_
  refine oP_let fun g3 e => ?_
  have f_g3 : fX g0 g3 := by rw [e, e_p2]; exact fX_tr f_g2 fn210_xq
  clear e
  refine oP_dl ?_
  exact f_g3
theorem fn212_xq {x : List Int} {g0 : rHp} : fX g0 (fn212 x g0).2.2 := by
  have f_g0 : fX g0 g0 := fX_refl
  show oP (fun h => fX g0 h) (fn212 x g0)
  unfold fn212
  refine oP_dl ?_
  refine oP_dl ?_
  refine oP_let fun p0 e_p0 => ?_
  refine oP_let fun g1 e => ?_
  have f_g1 : fX g0 g1 := by rw [e, e_p0]; exact fX_tr f_g0 fn192_xq
  clear e
  refine oP_dl ?_
  refine oP_let fun p1 e_p1 => ?_
  refine oP_let fun g2 e => ?_
  have f_g2 : fX g0 g2 := by rw [e, e_p1]; exact fX_tr f_g1 fn210_xq
  clear e
  refine oP_dl ?_
  exact f_g2
theorem fn226_xq {x : List Int} {g0 : rHp} : fX g0 (fn226 x g0).2.2 := by
  have f_g0 : fX g0 g0 := fX_refl
  show oP (fun h => fX g0 h) (fn226 x g0)
  unfold fn226
  refine oP_dl ?_
  refine oP_dl ?_
  refine oP_dl ?_
  refine oP_dl ?_
  refine oP_ite (fun hb => ?_) (fun hb => ?_)
  · refine oP_let fun p0 e_p0 => ?_
    refine oP_let fun g1 e => ?_
    have f_g1 : fX g0 g1 := by rw [e, e_p0]; exact fX_tr f_g0 fn224_xq
    clear e
    refine oP_dl ?_
    refine oP_let fun p1 e_p1 => ?_
    refine oP_let fun g2 e => ?_
    have f_g2 : fX g0 g2 := by rw [e, e_p1]; exact fX_tr f_g1 fn211_xq
    clear e
    refine oP_dl ?_
    exact f_g2
  · refine oP_let fun p0 e_p0 => ?_
    refine oP_let fun g1 e => ?_
    have f_g1 : fX g0 g1 := by rw [e, e_p0]; exact fX_tr f_g0 fn208_xq
    clear e
    refine oP_dl ?_
    exact f_g1
theorem fn227_xq {x : List Int} {g0 : rHp} : fX g0 (fn227 x g0).2.2 := by
  have f_g0 : fX g0 g0 := fX_refl
  show oP (fun h => fX g0 h) (fn227 x g0)
  unfold fn227
  refine oP_dl ?_
  refine oP_dl ?_
  refine oP_dl ?_
  refine oP_ite (fun hb => ?_) (fun hb => ?_)
  · refine oP_let fun p0 e_p0 => ?_
    refine oP_let fun g1 e => ?_
    have f_g1 : fX g0 g1 := by rw [e, e_p0]; exact fX_tr f_g0 fn212_xq
    clear e
    refine oP_dl ?_
    exact f_g1
  · refine oP_let fun p0 e_p0 => ?_
    refine oP_let fun g1 e => ?_
    have f_g1 : fX g0 g1 := by rw [e, e_p0]; exact fX_tr f_g0 fn209_xq
    clear e
    refine oP_dl ?_
    exact f_g1
theorem fn228_xq {x : List Int} {g0 : rHp} : fX g0 (fn228 x g0).2.2 := by
  have f_g0 : fX g0 g0 := fX_refl
  refine zGoo_P (I := fun s => fX g0 s.2.2) fX_zero (fun s hs => ?_) ?_
  · unfold en228
    refine oS_ite (fun hb => ?_) (fun hb => ?_)
    · refine oS_let fun g1 e => ?_
      have f_g1 : fX g0 g1 := by rw [e]; exact hs
      clear e
      refine oS_dl ?_
      refine oS_dl ?_
      refine oS_dl ?_
      refine oS_dl ?_
      refine oS_ite (fun hb => ?_) (fun hb => ?_)
      · exact f_g1
      · refine oS_ite (fun hb => ?_) (fun hb => ?_)
        · exact f_g1
        · refine oS_ite (fun hb => ?_) (fun hb => ?_)
          · exact f_g1
          · refine oS_let fun p1 e_p1 => ?_
            refine oS_let fun g2 e => ?_
            have f_g2 : fX g0 g2 := by rw [e, e_p1]; exact fX_tr f_g1 fn225_xq
            clear e
            refine oS_ite (fun hb => ?_) (fun hb => ?_)
            · exact f_g2
            · refine oS_let fun p2 e_p2 => ?_
              refine oS_let fun g3 e => ?_
              have f_g3 : fX g0 g3 := by rw [e, e_p2]; exact fX_tr f_g2 fn227_xq
              clear e
              refine oS_dl ?_
              exact f_g3
    · exact f_g0
  · unfold dn228
    refine oS_dl ?_
    refine oS_let fun p0 e_p0 => ?_
    refine oS_let fun g1 e => ?_
    have f_g1 : fX g0 g1 := by rw [e, e_p0]; exact fX_tr f_g0 fn226_xq
    clear e
    refine oS_dl ?_
    exact f_g1
theorem fn246_xq {x : List Int} {g0 : rHp} : fX g0 (fn246 x g0).2.2 := by
  have f_g0 : fX g0 g0 := fX_refl
  refine zGoo_P (I := fun s => fX g0 s.2.2) fX_zero (fun s hs => ?_) ?_
  · unfold en246
    refine oS_ite (fun hb => ?_) (fun hb => ?_)
    · refine oS_let fun g1 e => ?_
      have f_g1 : fX g0 g1 := by rw [e]; exact hs
      clear e
      refine oS_dl ?_
      refine oS_dl ?_
      refine oS_dl ?_
      refine oS_dl ?_
      refine oS_dl ?_
      refine oS_dl ?_
      refine oS_dl ?_
      refine oS_dl ?_
      refine oS_ite (fun hb => ?_) (fun hb => ?_)
      · exact f_g1
      · refine oS_ite (fun hb => ?_) (fun hb => ?_)
        · exact f_g1
        · refine oS_ite (fun hb => ?_) (fun hb => ?_)
          · exact f_g1
          · refine oS_ite (fun hb => ?_) (fun hb => ?_)
            · refine oS_let fun p1 e_p1 => ?_
              refine oS_let fun g2 e => ?_
              have f_g2 : fX g0 g2 := by rw [e, e_p1]; exact fX_tr f_g1 fn227_xq
              clear e
              refine oS_dl ?_
              exact f_g2
            · refine oS_let fun p1 e_p1 => ?_
              refine oS_let fun g2 e => ?_
              have f_g2 : fX g0 g2 := by rw [e, e_p1]; exact fX_tr f_g1 fn225_xq
              clear e
              refine oS_ite (fun hb => ?_) (fun hb => ?_)
              · refine oS_let fun p2 e_p2 => ?_
                refine oS_let fun g3 e => ?_
                have f_g3 : fX g0 g3 := by rw [e, e_p2]; exact fX_tr f_g2 fn232_xq
                clear e
                refine oS_ite (fun hb => ?_) (fun hb => ?_)
                · refine oS_ite (fun hb => ?_) (fun hb => ?_)
                  · refine oS_let fun g4 e => ?_
                    have f_g4 : fX g0 g4 := by rw [e]; exact fX_6 f_g3 (by decide)
                    clear e
                    refine oS_let fun p4 e_p4 => ?_
                    refine oS_let fun g5 e => ?_
                    have f_g5 : fX g0 g5 := by rw [e, e_p4]; exact fX_tr f_g4 fn245_xq
                    clear e
                    refine oS_ite (fun hb => ?_) (fun hb => ?_)
                    · refine oS_let fun g6 e => ?_
                      have f_g6 : fX g0 g6 := by rw [e]; exact fX_6 f_g5 (by decide)
                      clear e
                      refine oS_let fun p6 e_p6 => ?_
                      refine oS_let fun g7 e => ?_
                      have f_g7 : fX g0 g7 := by rw [e, e_p6]; exact fX_tr f_g6 fn227_xq
                      clear e
                      refine oS_dl ?_
                      exact f_g7
                    · exact f_g5
                  · refine oS_dl ?_
                    refine oS_let fun g4 e => ?_
                    have f_g4 : fX g0 g4 := by rw [e]; exact fX_6 f_g3 (by decide)
                    clear e
                    refine oS_let fun p4 e_p4 => ?_
                    refine oS_let fun g5 e => ?_
                    have f_g5 : fX g0 g5 := by rw [e, e_p4]; exact fX_tr f_g4 fn245_xq
                    clear e
                    refine oS_ite (fun hb => ?_) (fun hb => ?_)
                    · refine oS_dl ?_
                      refine oS_let fun g6 e => ?_
                      have f_g6 : fX g0 g6 := by rw [e]; exact fX_6 f_g5 (by decide)
                      clear e
                      refine oS_let fun p6 e_p6 => ?_
                      refine oS_let fun g7 e => ?_
                      have f_g7 : fX g0 g7 := by rw [e, e_p6]; exact fX_tr f_g6 fn227_xq
                      clear e
                      refine oS_dl ?_
                      exact f_g7
                    · exact f_g5
                · exact f_g3
              · refine oS_let fun p2 e_p2 => ?_
                refine oS_let fun g3 e => ?_
                have f_g3 : fX g0 g3 := by rw [e, e_p2]; exact fX_tr f_g2 fn227_xq
                clear e
                refine oS_dl ?_
                exact f_g3
    · exact f_g0
  · unfold dn246
    refine oS_dl ?_
    refine oS_dl ?_
    refine oS_dl ?_
    refine oS_dl ?_
    refine oS_dl ?_
    refine oS_dl ?_
    refine oS_ite (fun hb => ?_) (fun hb => ?_)
    · refine oS_let fun p0 e_p0 => ?_
      refine oS_let fun g1 e => ?_
      have f_g1 : fX g0 g1 := by rw [e, e_p0]; exact fX_tr f_g0 fn226_xq
      clear e
      refine oS_dl ?_
      exact f_g1
    · refine oS_ite (fun hb => ?_) (fun hb => ?_)
      · refine oS_let fun p0 e_p0 => ?_
        refine oS_let fun g1 e => ?_
        have f_g1 : fX g0 g1 := by rw [e, e_p0]; exact fX_tr f_g0 fn226_xq
        clear e
        refine oS_dl ?_
        exact f_g1
      · refine oS_ite (fun hb => ?_) (fun hb => ?_)
        · refine oS_let fun p0 e_p0 => ?_
          refine oS_let fun g1 e => ?_
          have f_g1 : fX g0 g1 := by rw [e, e_p0]; exact fX_tr f_g0 fn226_xq
          clear e
          refine oS_dl ?_
          exact f_g1
        · refine oS_let fun p0 e_p0 => ?_
          refine oS_let fun g1 e => ?_
          have f_g1 : fX g0 g1 := by rw [e, e_p0]; exact fX_tr f_g0 fn226_xq
          clear e
          refine oS_dl ?_
          exact f_g1
theorem fn247_xq {x : List Int} {g0 : rHp} : fX g0 (fn247 x g0).2.2 := by
  have f_g0 : fX g0 g0 := fX_refl
  show oP (fun h => fX g0 h) (fn247 x g0)
  unfold fn247
  refine oP_dl ?_
  refine oP_dl ?_
  refine oP_dl ?_
  refine oP_ite (fun hb => ?_) (fun hb => ?_)
  · refine oP_let fun p0 e_p0 => ?_
    refine oP_let fun g1 e => ?_
    have f_g1 : fX g0 g1 := by rw [e, e_p0]; exact fX_tr f_g0 fn244_xq
    clear e
    refine oP_ite (fun hb => ?_) (fun hb => ?_)
    · exact f_g1
    · exact f_g1
  · refine oP_let fun p0 e_p0 => ?_
    refine oP_let fun g1 e => ?_
    have f_g1 : fX g0 g1 := by rw [e, e_p0]; exact fX_tr f_g0 fn132_xq
    clear e
    refine oP_ite (fun hb => ?_) (fun hb => ?_)
    · refine oP_ite (fun hb => ?_) (fun hb => ?_)
      · refine oP_ite (fun hb => ?_) (fun hb => ?_)
        · refine oP_let fun p1 e_p1 => ?_
          refine oP_let fun g2 e => ?_
          have f_g2 : fX g0 g2 := by rw [e, e_p1]; exact fX_tr f_g1 fn230_xq
          clear e
          refine oP_ite (fun hb => ?_) (fun hb => ?_)
          · refine oP_let fun p2 e_p2 => ?_
            refine oP_let fun g3 e => ?_
            have f_g3 : fX g0 g3 := by rw [e, e_p2]; exact fX_tr f_g2 fn245_xq
            clear e
            refine oP_ite (fun hb => ?_) (fun hb => ?_)
            · exact f_g3
            · exact f_g3
          · exact f_g2
        · refine oP_let fun p1 e_p1 => ?_
          refine oP_let fun g2 e => ?_
          have f_g2 : fX g0 g2 := by rw [e, e_p1]; exact fX_tr f_g1 fn228_xq
          clear e
          refine oP_ite (fun hb => ?_) (fun hb => ?_)
          · exact f_g2
          · refine oP_let fun p2 e_p2 => ?_
            refine oP_let fun g3 e => ?_
            have f_g3 : fX g0 g3 := by rw [e, e_p2]; exact fX_tr f_g2 fn245_xq
            clear e
            refine oP_ite (fun hb => ?_) (fun hb => ?_)
            · exact f_g3
            · exact f_g3
      · refine oP_ite (fun hb => ?_) (fun hb => ?_)
        · refine oP_let fun p1 e_p1 => ?_
          refine oP_let fun g2 e => ?_
          have f_g2 : fX g0 g2 := by rw [e, e_p1]; exact fX_tr f_g1 fn229_xq
          clear e
          refine oP_ite (fun hb => ?_) (fun hb => ?_)
          · refine oP_let fun p2 e_p2 => ?_
            refine oP_let fun g3 e => ?_
            have f_g3 : fX g0 g3 := by rw [e, e_p2]; exact fX_tr f_g2 fn245_xq
            clear e
            refine oP_ite (fun hb => ?_) (fun hb => ?_)
            · exact f_g3
            · exact f_g3
          · exact f_g2
        · refine oP_let fun p1 e_p1 => ?_
          refine oP_let fun g2 e => ?_
          have f_g2 : fX g0 g2 := by rw [e, e_p1]; exact fX_tr f_g1 fn231_xq
          clear e
          refine oP_ite (fun hb => ?_) (fun hb => ?_)
          · refine oP_let fun p2 e_p2 => ?_
            refine oP_let fun g3 e => ?_
            have f_g3 : fX g0 g3 := by rw [e, e_p2]; exact fX_tr f_g2 fn245_xq
            clear e
            refine oP_ite (fun hb => ?_) (fun hb => ?_)
            · exact f_g3
            · exact f_g3
          · exact f_g2
    · refine oP_let fun p1 e_p1 => ?_
      refine oP_let fun g2 e => ?_
      have f_g2 : fX g0 g2 := by rw [e, e_p1]; exact fX_tr f_g1 fn246_xq
      clear e
      refine oP_ite (fun hb => ?_) (fun hb => ?_)
      · exact f_g2
      · refine oP_ite (fun hb => ?_) (fun hb => ?_)
        · exact f_g2
        · exact f_g2
theorem fn248_xq {x : List Int} {g0 : rHp} : fX g0 (fn248 x g0).2.2 := by
  have f_g0 : fX g0 g0 := fX_refl
  refine zGoo_P (I := fun s => fX g0 s.2.2) fX_zero (fun s hs => ?_) ?_
  · unfold en248
    refine oS_ite (fun hb => ?_) (fun hb => ?_)
    · refine oS_let fun g1 e => ?_
      have f_g1 : fX g0 g1 := by rw [e]; exact hs
      clear e
      refine oS_dl ?_
      refine oS_dl ?_
      refine oS_dl ?_
      refine oS_dl ?_
      refine oS_dl ?_
      refine oS_dl ?_
      refine oS_dl ?_
      refine oS_dl ?_
      refine oS_ite (fun hb => ?_) (fun hb => ?_)
      · exact f_g1
      · refine oS_ite (fun hb => ?_) (fun hb => ?_)
        · exact f_g1
        · refine oS_ite (fun hb => ?_) (fun hb => ?_)
          · exact f_g1
          · refine oS_ite (fun hb => ?_) (fun hb => ?_)
            · refine oS_let fun p1 e_p1 => ?_
              refine oS_let fun g2 e => ?_
              have f_g2 : fX g0 g2 := by rw [e, e_p1]; exact fX_tr f_g1 fn227_xq
              clear e
              refine oS_dl ?_
              exact f_g2
            · refine oS_let fun p1 e_p1 => ?_
              refine oS_let fun g2 e => ?_
              have f_g2 : fX g0 g2 := by rw [e, e_p1]; exact fX_tr f_g1 fn225_xq
              clear e
              refine oS_ite (fun hb => ?_) (fun hb => ?_)
              · refine oS_let fun p2 e_p2 => ?_
                refine oS_let fun g3 e => ?_
                have f_g3 : fX g0 g3 := by rw [e, e_p2]; exact fX_tr f_g2 fn232_xq
                clear e
                refine oS_ite (fun hb => ?_) (fun hb => ?_)
                · refine oS_ite (fun hb => ?_) (fun hb => ?_)
                  · refine oS_let fun g4 e => ?_
                    have f_g4 : fX g0 g4 := by rw [e]; exact fX_6 f_g3 (by decide)
                    clear e
                    refine oS_let fun p4 e_p4 => ?_
                    refine oS_let fun g5 e => ?_
                    have f_g5 : fX g0 g5 := by rw [e, e_p4]; exact fX_tr f_g4 fn247_xq
                    clear e
                    refine oS_ite (fun hb => ?_) (fun hb => ?_)
                    · refine oS_dl ?_
                      refine oS_let fun g6 e => ?_
                      have f_g6 : fX g0 g6 := by rw [e]; exact fX_6 f_g5 (by decide)
                      clear e
                      refine oS_let fun p6 e_p6 => ?_
                      refine oS_let fun g7 e => ?_
                      have f_g7 : fX g0 g7 := by rw [e, e_p6]; exact fX_tr f_g6 fn227_xq
                      clear e
                      refine oS_dl ?_
                      exact f_g7
                    · refine oS_ite (fun hb => ?_) (fun hb => ?_)
                      · exact f_g5
                      · exact f_g5
                  · refine oS_dl ?_
                    refine oS_let fun g4 e => ?_
                    have f_g4 : fX g0 g4 := by rw [e]; exact fX_6 f_g3 (by decide)
                    clear e
                    refine oS_let fun p4 e_p4 => ?_
                    refine oS_let fun g5 e => ?_
                    have f_g5 : fX g0 g5 := by rw [e, e_p4]; exact fX_tr f_g4 fn247_xq
                    clear e
                    refine oS_ite (fun hb => ?_) (fun hb => ?_)
                    · refine oS_dl ?_
                      refine oS_dl ?_
                      refine oS_let fun g6 e => ?_
                      have f_g6 : fX g0 g6 := by rw [e]; exact fX_6 f_g5 (by decide)
                      clear e
                      refine oS_let fun p6 e_p6 => ?_
                      refine oS_let fun g7 e => ?_
                      have f_g7 : fX g0 g7 := by rw [e, e_p6]; exact fX_tr f_g6 fn227_xq
                      clear e
                      refine oS_dl ?_
                      exact f_g7
                    · refine oS_ite (fun hb => ?_) (fun hb => ?_)
                      · exact f_g5
                      · exact f_g5
                · exact f_g3
              · refine oS_let fun p2 e_p2 => ?_
                refine oS_let fun g3 e => ?_
                have f_g3 : fX g0 g3 := by rw [e, e_p2]; exact fX_tr f_g2 fn227_xq
                clear e
                refine oS_dl ?_
                exact f_g3
    · exact f_g0
  · unfold dn248
    refine oS_dl ?_
    refine oS_dl ?_
    refine oS_dl ?_
    refine oS_dl ?_
    refine oS_dl ?_
    refine oS_dl ?_
    refine oS_ite (fun hb => ?_) (fun hb => ?_)
    · refine oS_let fun p0 e_p0 => ?_
      refine oS_let fun g1 e => ?_
      have f_g1 : fX g0 g1 := by rw [e, e_p0]; exact fX_tr f_g0 fn226_xq
      clear e
      refine oS_dl ?_
      exact f_g1
    · refine oS_ite (fun hb => ?_) (fun hb => ?_)
      · refine oS_let fun p0 e_p0 => ?_
        refine oS_let fun g1 e => ?_
        have f_g1 : fX g0 g1 := by rw [e, e_p0]; exact fX_tr f_g0 fn226_xq
        clear e
        refine oS_dl ?_
        exact f_g1
      · refine oS_ite (fun hb => ?_) (fun hb => ?_)
        · refine oS_let fun p0 e_p0 => ?_
          refine oS_let fun g1 e => ?_
          have f_g1 : fX g0 g1 := by rw [e, e_p0]; exact fX_tr f_g0 fn226_xq
          clear e
          refine oS_dl ?_
          exact f_g1
        · refine oS_let fun p0 e_p0 => ?_
          refine oS_let fun g1 e => ?_
          have f_g1 : fX g0 g1 := by rw [e, e_p0]; exact fX_tr f_g0 fn226_xq
          clear e
          refine oS_dl ?_
          exact f_g1
theorem fn249_xq {x : List Int} {g0 : rHp} : fX g0 (fn249 x g0).2.2 := by
  have f_g0 : fX g0 g0 := fX_refl
  show oP (fun h => fX g0 h) (fn249 x g0)
  unfold fn249
  refine oP_dl ?_
  refine oP_dl ?_
  refine oP_dl ?_
  refine oP_ite (fun hb => ?_) (fun hb => ?_)
  · refine oP_let fun p0 e_p0 => ?_
    refine oP_let fun g1 e => ?_
    have f_g1 : fX g0 g1 := by rw [e, e_p0]; exact fX_tr f_g0 fn244_xq
    clear e
    refine oP_ite (fun hb => ?_) (fun hb => ?_)
    · exact f_g1
    · exact f_g1
  · refine oP_let fun p0 e_p0 => ?_
    refine oP_let fun g1 e => ?_
    have f_g1 : fX g0 g1 := by rw [e, e_p0]; exact fX_tr f_g0 fn132_xq
    clear e
    refine oP_ite (fun hb => ?_) (fun hb => ?_)
    · refine oP_ite (fun hb => ?_) (fun hb => ?_)
      · refine oP_ite (fun hb => ?_) (fun hb => ?_)
        · refine oP_let fun p1 e_p1 => ?_
          refine oP_let fun g2 e => ?_
          have f_g2 : fX g0 g2 := by rw [e, e_p1]; exact fX_tr f_g1 fn230_xq
          clear e
          refine oP_ite (fun hb => ?_) (fun hb => ?_)
          · refine oP_let fun p2 e_p2 => ?_
            refine oP_let fun g3 e => ?_
            have f_g3 : fX g0 g3 := by rw [e, e_p2]; exact fX_tr f_g2 fn247_xq
            clear e
            refine oP_ite (fun hb => ?_) (fun hb => ?_)
            · exact f_g3
            · refine oP_ite (fun hb => ?_) (fun hb => ?_)
              · exact f_g3
              · exact f_g3
          · exact f_g2
        · refine oP_let fun p1 e_p1 => ?_
          refine oP_let fun g2 e => ?_
          have f_g2 : fX g0 g2 := by rw [e, e_p1]; exact fX_tr f_g1 fn228_xq
          clear e
          refine oP_ite (fun hb => ?_) (fun hb => ?_)
          · exact f_g2
          · refine oP_let fun p2 e_p2 => ?_
            refine oP_let fun g3 e => ?_
            have f_g3 : fX g0 g3 := by rw [e, e_p2]; exact fX_tr f_g2 fn247_xq
            clear e
            refine oP_ite (fun hb => ?_) (fun hb => ?_)
            · exact f_g3
            · refine oP_ite (fun hb => ?_) (fun hb => ?_)
              · exact f_g3
              · exact f_g3
      · refine oP_ite (fun hb => ?_) (fun hb => ?_)
        · refine oP_let fun p1 e_p1 => ?_
          refine oP_let fun g2 e => ?_
          have f_g2 : fX g0 g2 := by rw [e, e_p1]; exact fX_tr f_g1 fn229_xq
          clear e
          refine oP_ite (fun hb => ?_) (fun hb => ?_)
          · refine oP_let fun p2 e_p2 => ?_
            refine oP_let fun g3 e => ?_
            have f_g3 : fX g0 g3 := by rw [e, e_p2]; exact fX_tr f_g2 fn247_xq
            clear e
            refine oP_ite (fun hb => ?_) (fun hb => ?_)
            · exact f_g3
            · refine oP_ite (fun hb => ?_) (fun hb => ?_)
              · exact f_g3
              · exact f_g3
          · exact f_g2
        · refine oP_let fun p1 e_p1 => ?_
          refine oP_let fun g2 e => ?_
          have f_g2 : fX g0 g2 := by rw [e, e_p1]; exact fX_tr f_g1 fn231_xq
          clear e
          refine oP_ite (fun hb => ?_) (fun hb => ?_)
          · refine oP_let fun p2 e_p2 => ?_
            refine oP_let fun g3 e => ?_
            have f_g3 : fX g0 g3 := by rw [e, e_p2]; exact fX_tr f_g2 fn247_xq
            clear e
            refine oP_ite (fun hb => ?_) (fun hb => ?_)
            · exact f_g3
            · refine oP_ite (fun hb => ?_) (fun hb => ?_)
              · exact f_g3
              · exact f_g3
          · exact f_g2
    · refine oP_let fun p1 e_p1 => ?_
      refine oP_let fun g2 e => ?_
      have f_g2 : fX g0 g2 := by rw [e, e_p1]; exact fX_tr f_g1 fn248_xq
      clear e
      refine oP_ite (fun hb => ?_) (fun hb => ?_)
      · exact f_g2
      · refine oP_ite (fun hb => ?_) (fun hb => ?_)
        · exact f_g2
        · exact f_g2
theorem fn250_xq {x : List Int} {g0 : rHp} : fX g0 (fn250 x g0).2.2 := by
  have f_g0 : fX g0 g0 := fX_refl
  refine zGoo_P (I := fun s => fX g0 s.2.2) fX_zero (fun s hs => ?_) ?_
  · unfold en250
    refine oS_ite (fun hb => ?_) (fun hb => ?_)
    · refine oS_let fun g1 e => ?_
      have f_g1 : fX g0 g1 := by rw [e]; exact hs
      clear e
      refine oS_dl ?_
      refine oS_dl ?_
      refine oS_dl ?_
      refine oS_dl ?_
      refine oS_dl ?_
      refine oS_dl ?_
      refine oS_dl ?_
      refine oS_dl ?_
      refine oS_ite (fun hb => ?_) (fun hb => ?_)
      · exact f_g1
      · refine oS_ite (fun hb => ?_) (fun hb => ?_)
        · exact f_g1
        · refine oS_ite (fun hb => ?_) (fun hb => ?_)
          · exact f_g1
          · refine oS_ite (fun hb => ?_) (fun hb => ?_)
            · refine oS_let fun p1 e_p1 => ?_
              refine oS_let fun g2 e => ?_
              have f_g2 : fX g0 g2 := by rw [e, e_p1]; exact fX_tr f_g1 fn227_xq
              clear e
              refine oS_dl ?_
              exact f_g2
            · refine oS_let fun p1 e_p1 => ?_
              refine oS_let fun g2 e => ?_
              have f_g2 : fX g0 g2 := by rw [e, e_p1]; exact fX_tr f_g1 fn225_xq
              clear e
              refine oS_ite (fun hb => ?_) (fun hb => ?_)
              · refine oS_let fun p2 e_p2 => ?_
                refine oS_let fun g3 e => ?_
                have f_g3 : fX g0 g3 := by rw [e, e_p2]; exact fX_tr f_g2 fn232_xq
                clear e
                refine oS_ite (fun hb => ?_) (fun hb => ?_)
                · refine oS_ite (fun hb => ?_) (fun hb => ?_)
                  · refine oS_let fun g4 e => ?_
                    have f_g4 : fX g0 g4 := by rw [e]; exact fX_6 f_g3 (by decide)
                    clear e
                    refine oS_let fun p4 e_p4 => ?_
                    refine oS_let fun g5 e => ?_
                    have f_g5 : fX g0 g5 := by rw [e, e_p4]; exact fX_tr f_g4 fn249_xq
                    clear e
                    refine oS_ite (fun hb => ?_) (fun hb => ?_)
                    · refine oS_dl ?_
                      refine oS_let fun g6 e => ?_
                      have f_g6 : fX g0 g6 := by rw [e]; exact fX_6 f_g5 (by decide)
                      clear e
                      refine oS_let fun p6 e_p6 => ?_
                      refine oS_let fun g7 e => ?_
                      have f_g7 : fX g0 g7 := by rw [e, e_p6]; exact fX_tr f_g6 fn227_xq
                      clear e
                      refine oS_dl ?_
                      exact f_g7
                    · refine oS_ite (fun hb => ?_) (fun hb => ?_)
                      · exact f_g5
                      · exact f_g5
                  · refine oS_dl ?_
                    refine oS_let fun g4 e => ?_
                    have f_g4 : fX g0 g4 := by rw [e]; exact fX_6 f_g3 (by decide)
                    clear e
                    refine oS_let fun p4 e_p4 => ?_
                    refine oS_let fun g5 e => ?_
                    have f_g5 : fX g0 g5 := by rw [e, e_p4]; exact fX_tr f_g4 fn249_xq
                    clear e
                    refine oS_ite (fun hb => ?_) (fun hb => ?_)
                    · refine oS_dl ?_
                      refine oS_dl ?_
                      refine oS_let fun g6 e => ?_
                      have f_g6 : fX g0 g6 := by rw [e]; exact fX_6 f_g5 (by decide)
                      clear e
                      refine oS_let fun p6 e_p6 => ?_
                      refine oS_let fun g7 e => ?_
                      have f_g7 : fX g0 g7 := by rw [e, e_p6]; exact fX_tr f_g6 fn227_xq
                      clear e
                      refine oS_dl ?_
                      exact f_g7
                    · refine oS_ite (fun hb => ?_) (fun hb => ?_)
                      · exact f_g5
                      · exact f_g5
                · exact f_g3
              · refine oS_let fun p2 e_p2 => ?_
                refine oS_let fun g3 e => ?_
                have f_g3 : fX g0 g3 := by rw [e, e_p2]; exact fX_tr f_g2 fn227_xq
                clear e
                refine oS_dl ?_
                exact f_g3
    · exact f_g0
  · unfold dn250
    refine oS_dl ?_
    refine oS_dl ?_
    refine oS_dl ?_
    refine oS_dl ?_
    refine oS_dl ?_
    refine oS_dl ?_
    refine oS_ite (fun hb => ?_) (fun hb => ?_)
    · refine oS_let fun p0 e_p0 => ?_
      refine oS_let fun g1 e => ?_
      have f_g1 : fX g0 g1 := by rw [e, e_p0]; exact fX_tr f_g0 fn226_xq
      clear e
      refine oS_dl ?_
      exact f_g1
    · refine oS_ite (fun hb => ?_) (fun hb => ?_)
      · refine oS_let fun p0 e_p0 => ?_
        refine oS_let fun g1 e => ?_
        have f_g1 : fX g0 g1 := by rw [e, e_p0]; exact fX_tr f_g0 fn226_xq
        clear e
        refine oS_dl ?_
        exact f_g1
      · refine oS_ite (fun hb => ?_) (fun hb => ?_)
        · refine oS_let fun p0 e_p0 => ?_
          refine oS_let fun g1 e => ?_
          have f_g1 : fX g0 g1 := by rw [e, e_p0]; exact fX_tr f_g0 fn226_xq
          clear e
          refine oS_dl ?_
          exact f_g1
        · refine oS_let fun p0 e_p0 => ?_
          refine oS_let fun g1 e => ?_
          have f_g1 : fX g0 g1 := by rw [e, e_p0]; exact fX_tr f_g0 fn226_xq
          clear e
          refine oS_dl ?_
          exact f_g1
theorem fn251_xq {x : List Int} {g0 : rHp} : fX g0 (fn251 x g0).2.2 := by
  have f_g0 : fX g0 g0 := fX_refl
  show oP (fun h => fX g0 h) (fn251 x g0)
  unfold fn251
  refine oP_dl ?_
  refine oP_dl ?_
  refine oP_dl ?_
  refine oP_ite (fun hb => ?_) (fun hb => ?_)
  · refine oP_let fun p0 e_p0 => ?_
    refine oP_let fun g1 e => ?_
    have f_g1 : fX g0 g1 := by rw [e, e_p0]; exact fX_tr f_g0 fn244_xq
    clear e
    refine oP_ite (fun hb => ?_) (fun hb => ?_)
    · exact f_g1
    · exact f_g1
  · refine oP_let fun p0 e_p0 => ?_
    refine oP_let fun g1 e => ?_
    have f_g1 : fX g0 g1 := by rw [e, e_p0]; exact fX_tr f_g0 fn132_xq
    clear e
    refine oP_ite (fun hb => ?_) (fun hb => ?_)
    · refine oP_ite (fun hb => ?_) (fun hb => ?_)
      · refine oP_ite (fun hb => ?_) (fun hb => ?_)
        · refine oP_let fun p1 e_p1 => ?_
          refine oP_let fun g2 e => ?_
          have f_g2 : fX g0 g2 := by rw [e, e_p1]; exact fX_tr f_g1 fn230_xq
          clear e
          refine oP_ite (fun hb => ?_) (fun hb => ?_)
          · refine oP_let fun p2 e_p2 => ?_
            refine oP_let fun g3 e => ?_
            have f_g3 : fX g0 g3 := by rw [e, e_p2]; exact fX_tr f_g2 fn249_xq
            clear e
            refine oP_ite (fun hb => ?_) (fun hb => ?_)
            · exact f_g3
            · refine oP_ite (fun hb => ?_) (fun hb => ?_)
              · exact f_g3
              · exact f_g3
          · exact f_g2
        · refine oP_let fun p1 e_p1 => ?_
          refine oP_let fun g2 e => ?_
          have f_g2 : fX g0 g2 := by rw [e, e_p1]; exact fX_tr f_g1 fn228_xq
          clear e
          refine oP_ite (fun hb => ?_) (fun hb => ?_)
          · exact f_g2
          · refine oP_let fun p2 e_p2 => ?_
            refine oP_let fun g3 e => ?_
            have f_g3 : fX g0 g3 := by rw [e, e_p2]; exact fX_tr f_g2 fn249_xq
            clear e
            refine oP_ite (fun hb => ?_) (fun hb => ?_)
            · exact f_g3
            · refine oP_ite (fun hb => ?_) (fun hb => ?_)
              · exact f_g3
              · exact f_g3
      · refine oP_ite (fun hb => ?_) (fun hb => ?_)
        · refine oP_let fun p1 e_p1 => ?_
          refine oP_let fun g2 e => ?_
          have f_g2 : fX g0 g2 := by rw [e, e_p1]; exact fX_tr f_g1 fn229_xq
          clear e
          refine oP_ite (fun hb => ?_) (fun hb => ?_)
          · refine oP_let fun p2 e_p2 => ?_
            refine oP_let fun g3 e => ?_
            have f_g3 : fX g0 g3 := by rw [e, e_p2]; exact fX_tr f_g2 fn249_xq
            clear e
            refine oP_ite (fun hb => ?_) (fun hb => ?_)
            · exact f_g3
            · refine oP_ite (fun hb => ?_) (fun hb => ?_)
              · exact f_g3
              · exact f_g3
          · exact f_g2
        · refine oP_let fun p1 e_p1 => ?_
          refine oP_let fun g2 e => ?_
          have f_g2 : fX g0 g2 := by rw [e, e_p1]; exact fX_tr f_g1 fn231_xq
          clear e
          refine oP_ite (fun hb => ?_) (fun hb => ?_)
          · refine oP_let fun p2 e_p2 => ?_
            refine oP_let fun g3 e => ?_
            have f_g3 : fX g0 g3 := by rw [e, e_p2]; exact fX_tr f_g2 fn249_xq
            clear e
            refine oP_ite (fun hb => ?_) (fun hb => ?_)
            · exact f_g3
            · refine oP_ite (fun hb => ?_) (fun hb => ?_)
              · exact f_g3
              · exact f_g3
          · exact f_g2
    · refine oP_let fun p1 e_p1 => ?_
      refine oP_let fun g2 e => ?_
      have f_g2 : fX g0 g2 := by rw [e, e_p1]; exact fX_tr f_g1 fn250_xq
      clear e
      refine oP_ite (fun hb => ?_) (fun hb => ?_)
      · exact f_g2
      · refine oP_ite (fun hb => ?_) (fun hb => ?_)
        · exact f_g2
        · exact f_g2
theorem fn252_xq {x : List Int} {g0 : rHp} : fX g0 (fn252 x g0).2.2 := by
  have f_g0 : fX g0 g0 := fX_refl
  refine zGoo_P (I := fun s => fX g0 s.2.2) fX_zero (fun s hs => ?_) ?_
  · unfold en252
    refine oS_ite (fun hb => ?_) (fun hb => ?_)
    · refine oS_let fun g1 e => ?_
      have f_g1 : fX g0 g1 := by rw [e]; exact hs
      clear e
      refine oS_dl ?_
      refine oS_dl ?_
      refine oS_dl ?_
      refine oS_dl ?_
      refine oS_dl ?_
      refine oS_dl ?_
      refine oS_dl ?_
      refine oS_dl ?_
      refine oS_ite (fun hb => ?_) (fun hb => ?_)
      · exact f_g1
      · refine oS_ite (fun hb => ?_) (fun hb => ?_)
        · exact f_g1
        · refine oS_ite (fun hb => ?_) (fun hb => ?_)
          · exact f_g1
          · refine oS_ite (fun hb => ?_) (fun hb => ?_)
            · refine oS_let fun p1 e_p1 => ?_
              refine oS_let fun g2 e => ?_
              have f_g2 : fX g0 g2 := by rw [e, e_p1]; exact fX_tr f_g1 fn227_xq
              clear e
              refine oS_dl ?_
              exact f_g2
            · refine oS_let fun p1 e_p1 => ?_
              refine oS_let fun g2 e => ?_
              have f_g2 : fX g0 g2 := by rw [e, e_p1]; exact fX_tr f_g1 fn225_xq
              clear e
              refine oS_ite (fun hb => ?_) (fun hb => ?_)
              · refine oS_let fun p2 e_p2 => ?_
                refine oS_let fun g3 e => ?_
                have f_g3 : fX g0 g3 := by rw [e, e_p2]; exact fX_tr f_g2 fn232_xq
                clear e
                refine oS_ite (fun hb => ?_) (fun hb => ?_)
                · refine oS_ite (fun hb => ?_) (fun hb => ?_)
                  · refine oS_let fun g4 e => ?_
                    have f_g4 : fX g0 g4 := by rw [e]; exact fX_6 f_g3 (by decide)
                    clear e
                    refine oS_let fun p4 e_p4 => ?_
                    refine oS_let fun g5 e => ?_
                    have f_g5 : fX g0 g5 := by rw [e, e_p4]; exact fX_tr f_g4 fn251_xq
                    clear e
                    refine oS_ite (fun hb => ?_) (fun hb => ?_)
                    · refine oS_dl ?_
                      refine oS_let fun g6 e => ?_
                      have f_g6 : fX g0 g6 := by rw [e]; exact fX_6 f_g5 (by decide)
                      clear e
                      refine oS_let fun p6 e_p6 => ?_
                      refine oS_let fun g7 e => ?_
                      have f_g7 : fX g0 g7 := by rw [e, e_p6]; exact fX_tr f_g6 fn227_xq
                      clear e
                      refine oS_dl ?_
                      exact f_g7
                    · refine oS_ite (fun hb => ?_) (fun hb => ?_)
                      · exact f_g5
                      · exact f_g5
                  · refine oS_dl ?_
                    refine oS_let fun g4 e => ?_
                    have f_g4 : fX g0 g4 := by rw [e]; exact fX_6 f_g3 (by decide)
                    clear e
                    refine oS_let fun p4 e_p4 => ?_
                    refine oS_let fun g5 e => ?_
                    have f_g5 : fX g0 g5 := by rw [e, e_p4]; exact fX_tr f_g4 fn251_xq
                    clear e
                    refine oS_ite (fun hb => ?_) (fun hb => ?_)
                    · refine oS_dl ?_
                      refine oS_dl ?_
                      refine oS_let fun g6 e => ?_
                      have f_g6 : fX g0 g6 := by rw [e]; exact fX_6 f_g5 (by decide)
                      clear e
                      refine oS_let fun p6 e_p6 => ?_
                      refine oS_let fun g7 e => ?_
                      have f_g7 : fX g0 g7 := by rw [e, e_p6]; exact fX_tr f_g6 fn227_xq
                      clear e
                      refine oS_dl ?_
                      exact f_g7
                    · refine oS_ite (fun hb => ?_) (fun hb => ?_)
                      · exact f_g5
                      · exact f_g5
                · exact f_g3
              · refine oS_let fun p2 e_p2 => ?_
                refine oS_let fun g3 e => ?_
                have f_g3 : fX g0 g3 := by rw [e, e_p2]; exact fX_tr f_g2 fn227_xq
                clear e
                refine oS_dl ?_
                exact f_g3
    · exact f_g0
  · unfold dn252
    refine oS_dl ?_
    refine oS_dl ?_
    refine oS_dl ?_
    refine oS_dl ?_
    refine oS_dl ?_
    refine oS_dl ?_
    refine oS_ite (fun hb => ?_) (fun hb => ?_)
    · refine oS_let fun p0 e_p0 => ?_
      refine oS_let fun g1 e => ?_
      have f_g1 : fX g0 g1 := by rw [e, e_p0]; exact fX_tr f_g0 fn226_xq
      clear e
      refine oS_dl ?_
      exact f_g1
    · refine oS_ite (fun hb => ?_) (fun hb => ?_)
      · refine oS_let fun p0 e_p0 => ?_
        refine oS_let fun g1 e => ?_
        have f_g1 : fX g0 g1 := by rw [e, e_p0]; exact fX_tr f_g0 fn226_xq
        clear e
        refine oS_dl ?_
        exact f_g1
      · refine oS_ite (fun hb => ?_) (fun hb => ?_)
        · refine oS_let fun p0 e_p0 => ?_
          refine oS_let fun g1 e => ?_
          have f_g1 : fX g0 g1 := by rw [e, e_p0]; exact fX_tr f_g0 fn226_xq
          clear e
          refine oS_dl ?_
          exact f_g1
        · refine oS_let fun p0 e_p0 => ?_
          refine oS_let fun g1 e => ?_
          have f_g1 : fX g0 g1 := by rw [e, e_p0]; exact fX_tr f_g0 fn226_xq
          clear e
          refine oS_dl ?_
          exact f_g1
theorem fn253_xq {x : List Int} {g0 : rHp} : fX g0 (fn253 x g0).2.2 := by
  have f_g0 : fX g0 g0 := fX_refl
  show oP (fun h => fX g0 h) (fn253 x g0)
  unfold fn253
  refine oP_dl ?_
  refine oP_dl ?_
  refine oP_dl ?_
  refine oP_ite (fun hb => ?_) (fun hb => ?_)
  · refine oP_let fun p0 e_p0 => ?_
    refine oP_let fun g1 e => ?_
    have f_g1 : fX g0 g1 := by rw [e, e_p0]; exact fX_tr f_g0 fn244_xq
    clear e
    refine oP_ite (fun hb => ?_) (fun hb => ?_)
    · exact f_g1
    · exact f_g1
  · refine oP_let fun p0 e_p0 => ?_
    refine oP_let fun g1 e => ?_
    have f_g1 : fX g0 g1 := by rw [e, e_p0]; exact fX_tr f_g0 fn132_xq
    clear e
    refine oP_ite (fun hb => ?_) (fun hb => ?_)
    · refine oP_ite (fun hb => ?_) (fun hb => ?_)
      · refine oP_ite (fun hb => ?_) (fun hb => ?_)
        · refine oP_let fun p1 e_p1 => ?_
          refine oP_let fun g2 e => ?_
          have f_g2 : fX g0 g2 := by rw [e, e_p1]; exact fX_tr f_g1 fn230_xq
          clear e
          refine oP_ite (fun hb => ?_) (fun hb => ?_)
          · refine oP_let fun p2 e_p2 => ?_
            refine oP_let fun g3 e => ?_
            have f_g3 : fX g0 g3 := by rw [e, e_p2]; exact fX_tr f_g2 fn251_xq
            clear e
            refine oP_ite (fun hb => ?_) (fun hb => ?_)
            · exact f_g3
            · refine oP_ite (fun hb => ?_) (fun hb => ?_)
              · exact f_g3
              · exact f_g3
          · exact f_g2
        · refine oP_let fun p1 e_p1 => ?_
          refine oP_let fun g2 e => ?_
          have f_g2 : fX g0 g2 := by rw [e, e_p1]; exact fX_tr f_g1 fn228_xq
          clear e
          refine oP_ite (fun hb => ?_) (fun hb => ?_)
          · exact f_g2
          · refine oP_let fun p2 e_p2 => ?_
            refine oP_let fun g3 e => ?_
            have f_g3 : fX g0 g3 := by rw [e, e_p2]; exact fX_tr f_g2 fn251_xq
            clear e
            refine oP_ite (fun hb => ?_) (fun hb => ?_)
            · exact f_g3
            · refine oP_ite (fun hb => ?_) (fun hb => ?_)
              · exact f_g3
              · exact f_g3
      · refine oP_ite (fun hb => ?_) (fun hb => ?_)
        · refine oP_let fun p1 e_p1 => ?_
          refine oP_let fun g2 e => ?_
          have f_g2 : fX g0 g2 := by rw [e, e_p1]; exact fX_tr f_g1 fn229_xq
          clear e
          refine oP_ite (fun hb => ?_) (fun hb => ?_)
          · refine oP_let fun p2 e_p2 => ?_
            refine oP_let fun g3 e => ?_
            have f_g3 : fX g0 g3 := by rw [e, e_p2]; exact fX_tr f_g2 fn251_xq
            clear e
            refine oP_ite (fun hb => ?_) (fun hb => ?_)
            · exact f_g3
            · refine oP_ite (fun hb => ?_) (fun hb => ?_)
              · exact f_g3
              · exact f_g3
          · exact f_g2
        · refine oP_let fun p1 e_p1 => ?_
          refine oP_let fun g2 e => ?_
          have f_g2 : fX g0 g2 := by rw [e, e_p1]; exact fX_tr f_g1 fn231_xq
          clear e
          refine oP_ite (fun hb => ?_) (fun hb => ?_)
          · refine oP_let fun p2 e_p2 => ?_
            refine oP_let fun g3 e => ?_
            have f_g3 : fX g0 g3 := by rw [e, e_p2]; exact fX_tr f_g2 fn251_xq
            clear e
            refine oP_ite (fun hb => ?_) (fun hb => ?_)
            · exact f_g3
            · refine oP_ite (fun hb => ?_) (fun hb => ?_)
              · exact f_g3
              · exact f_g3
          · exact f_g2
    · refine oP_let fun p1 e_p1 => ?_
      refine oP_let fun g2 e => ?_
      have f_g2 : fX g0 g2 := by rw [e, e_p1]; exact fX_tr f_g1 fn252_xq
      clear e
      refine oP_ite (fun hb => ?_) (fun hb => ?_)
      · exact f_g2
      · refine oP_ite (fun hb => ?_) (fun hb => ?_)
        · exact f_g2
        · exact f_g2
theorem fn254_xq {x : List Int} {g0 : rHp} : fX g0 (fn254 x g0).2.2 := by
  have f_g0 : fX g0 g0 := fX_refl
  refine zGoo_P (I := fun s => fX g0 s.2.2) fX_zero (fun s hs => ?_) ?_
  · unfold en254
    refine oS_ite (fun hb => ?_) (fun hb => ?_)
    · refine oS_let fun g1 e => ?_
      have f_g1 : fX g0 g1 := by rw [e]; exact hs
      clear e
      refine oS_dl ?_
      refine oS_dl ?_
      refine oS_dl ?_
      refine oS_dl ?_
      refine oS_dl ?_
      refine oS_dl ?_
      refine oS_dl ?_
      refine oS_dl ?_
      refine oS_ite (fun hb => ?_) (fun hb => ?_)
      · exact f_g1
      · refine oS_ite (fun hb => ?_) (fun hb => ?_)
        · exact f_g1
        · refine oS_ite (fun hb => ?_) (fun hb => ?_)
          · exact f_g1
          · refine oS_ite (fun hb => ?_) (fun hb => ?_)
            · refine oS_let fun p1 e_p1 => ?_
              refine oS_let fun g2 e => ?_
              have f_g2 : fX g0 g2 := by rw [e, e_p1]; exact fX_tr f_g1 fn227_xq
              clear e
              refine oS_dl ?_
              exact f_g2
            · refine oS_let fun p1 e_p1 => ?_
              refine oS_let fun g2 e => ?_
              have f_g2 : fX g0 g2 := by rw [e, e_p1]; exact fX_tr f_g1 fn225_xq
              clear e
              refine oS_ite (fun hb => ?_) (fun hb => ?_)
              · refine oS_let fun p2 e_p2 => ?_
                refine oS_let fun g3 e => ?_
                have f_g3 : fX g0 g3 := by rw [e, e_p2]; exact fX_tr f_g2 fn232_xq
                clear e
                refine oS_ite (fun hb => ?_) (fun hb => ?_)
                · refine oS_ite (fun hb => ?_) (fun hb => ?_)
                  · refine oS_let fun g4 e => ?_
                    have f_g4 : fX g0 g4 := by rw [e]; exact fX_6 f_g3 (by decide)
                    clear e
                    refine oS_let fun p4 e_p4 => ?_
                    refine oS_let fun g5 e => ?_
                    have f_g5 : fX g0 g5 := by rw [e, e_p4]; exact fX_tr f_g4 fn253_xq
                    clear e
                    refine oS_ite (fun hb => ?_) (fun hb => ?_)
                    · refine oS_dl ?_
                      refine oS_let fun g6 e => ?_
                      have f_g6 : fX g0 g6 := by rw [e]; exact fX_6 f_g5 (by decide)
                      clear e
                      refine oS_let fun p6 e_p6 => ?_
                      refine oS_let fun g7 e => ?_
                      have f_g7 : fX g0 g7 := by rw [e, e_p6]; exact fX_tr f_g6 fn227_xq
                      clear e
                      refine oS_dl ?_
                      exact f_g7
                    · refine oS_ite (fun hb => ?_) (fun hb => ?_)
                      · exact f_g5
                      · exact f_g5
                  · refine oS_dl ?_
                    refine oS_let fun g4 e => ?_
                    have f_g4 : fX g0 g4 := by rw [e]; exact fX_6 f_g3 (by decide)
                    clear e
                    refine oS_let fun p4 e_p4 => ?_
                    refine oS_let fun g5 e => ?_
                    have f_g5 : fX g0 g5 := by rw [e, e_p4]; exact fX_tr f_g4 fn253_xq
                    clear e
                    refine oS_ite (fun hb => ?_) (fun hb => ?_)
                    · refine oS_dl ?_
                      refine oS_dl ?_
                      refine oS_let fun g6 e => ?_
                      have f_g6 : fX g0 g6 := by rw [e]; exact fX_6 f_g5 (by decide)
                      clear e
                      refine oS_let fun p6 e_p6 => ?_
                      refine oS_let fun g7 e => ?_
                      have f_g7 : fX g0 g7 := by rw [e, e_p6]; exact fX_tr f_g6 fn227_xq
                      clear e
                      refine oS_dl ?_
                      exact f_g7
                    · refine oS_ite (fun hb => ?_) (fun hb => ?_)
                      · exact f_g5
                      · exact f_g5
                · exact f_g3
              · refine oS_let fun p2 e_p2 => ?_
                refine oS_let fun g3 e => ?_
                have f_g3 : fX g0 g3 := by rw [e, e_p2]; exact fX_tr f_g2 fn227_xq
                clear e
                refine oS_dl ?_
                exact f_g3
    · exact f_g0
  · unfold dn254
    refine oS_dl ?_
    refine oS_dl ?_
    refine oS_dl ?_
    refine oS_dl ?_
    refine oS_dl ?_
    refine oS_dl ?_
    refine oS_ite (fun hb => ?_) (fun hb => ?_)
    · refine oS_let fun p0 e_p0 => ?_
      refine oS_let fun g1 e => ?_
      have f_g1 : fX g0 g1 := by rw [e, e_p0]; exact fX_tr f_g0 fn226_xq
      clear e
      refine oS_dl ?_
      exact f_g1
    · refine oS_ite (fun hb => ?_) (fun hb => ?_)
      · refine oS_let fun p0 e_p0 => ?_
        refine oS_let fun g1 e => ?_
        have f_g1 : fX g0 g1 := by rw [e, e_p0]; exact fX_tr f_g0 fn226_xq
        clear e
        refine oS_dl ?_
        exact f_g1
      · refine oS_ite (fun hb => ?_) (fun hb => ?_)
        · refine oS_let fun p0 e_p0 => ?_
          refine oS_let fun g1 e => ?_
          have f_g1 : fX g0 g1 := by rw [e, e_p0]; exact fX_tr f_g0 fn226_xq
          clear e
          refine oS_dl ?_
          exact f_g1
        · refine oS_let fun p0 e_p0 => ?_
          refine oS_let fun g1 e => ?_
          have f_g1 : fX g0 g1 := by rw [e, e_p0]; exact fX_tr f_g0 fn226_xq
          clear e
          refine oS_dl ?_
          exact f_g1
theorem fn255_xq {x : List Int} {g0 : rHp} : fX g0 (fn255 x g0).2.2 := by
  have f_g0 : fX g0 g0 := fX_refl
  show oP (fun h => fX g0 h) (fn255 x g0)
  unfold fn255
  refine oP_dl ?_
  refine oP_dl ?_
  refine oP_dl ?_
  refine oP_ite (fun hb => ?_) (fun hb => ?_)
  · refine oP_let fun p0 e_p0 => ?_
    refine oP_let fun g1 e => ?_
    have f_g1 : fX g0 g1 := by rw [e, e_p0]; exact fX_tr f_g0 fn244_xq
    clear e
    refine oP_ite (fun hb => ?_) (fun hb => ?_)
    · exact f_g1
    · exact f_g1
  · refine oP_let fun p0 e_p0 => ?_
    refine oP_let fun g1 e => ?_
    have f_g1 : fX g0 g1 := by rw [e, e_p0]; exact fX_tr f_g0 fn132_xq
    clear e
    refine oP_ite (fun hb => ?_) (fun hb => ?_)
    · refine oP_ite (fun hb => ?_) (fun hb => ?_)
      · refine oP_ite (fun hb => ?_) (fun hb => ?_)
        · refine oP_let fun p1 e_p1 => ?_
          refine oP_let fun g2 e => ?_
          have f_g2 : fX g0 g2 := by rw [e, e_p1]; exact fX_tr f_g1 fn230_xq
          clear e
          refine oP_ite (fun hb => ?_) (fun hb => ?_)
          · refine oP_let fun p2 e_p2 => ?_
            refine oP_let fun g3 e => ?_
            have f_g3 : fX g0 g3 := by rw [e, e_p2]; exact fX_tr f_g2 fn253_xq
            clear e
            refine oP_ite (fun hb => ?_) (fun hb => ?_)
            · exact f_g3
            · refine oP_ite (fun hb => ?_) (fun hb => ?_)
              · exact f_g3
              · exact f_g3
          · exact f_g2
        · refine oP_let fun p1 e_p1 => ?_
          refine oP_let fun g2 e => ?_
          have f_g2 : fX g0 g2 := by rw [e, e_p1]; exact fX_tr f_g1 fn228_xq
          clear e
          refine oP_ite (fun hb => ?_) (fun hb => ?_)
          · exact f_g2
          · refine oP_let fun p2 e_p2 => ?_
            refine oP_let fun g3 e => ?_
            have f_g3 : fX g0 g3 := by rw [e, e_p2]; exact fX_tr f_g2 fn253_xq
            clear e
            refine oP_ite (fun hb => ?_) (fun hb => ?_)
            · exact f_g3
            · refine oP_ite (fun hb => ?_) (fun hb => ?_)
              · exact f_g3
              · exact f_g3
      · refine oP_ite (fun hb => ?_) (fun hb => ?_)
        · refine oP_let fun p1 e_p1 => ?_
          refine oP_let fun g2 e => ?_
          have f_g2 : fX g0 g2 := by rw [e, e_p1]; exact fX_tr f_g1 fn229_xq
          clear e
          refine oP_ite (fun hb => ?_) (fun hb => ?_)
          · refine oP_let fun p2 e_p2 => ?_
            refine oP_let fun g3 e => ?_
            have f_g3 : fX g0 g3 := by rw [e, e_p2]; exact fX_tr f_g2 fn253_xq
            clear e
            refine oP_ite (fun hb => ?_) (fun hb => ?_)
            · exact f_g3
            · refine oP_ite (fun hb => ?_) (fun hb => ?_)
              · exact f_g3
              · exact f_g3
          · exact f_g2
        · refine oP_let fun p1 e_p1 => ?_
          refine oP_let fun g2 e => ?_
          have f_g2 : fX g0 g2 := by rw [e, e_p1]; exact fX_tr f_g1 fn231_xq
          clear e
          refine oP_ite (fun hb => ?_) (fun hb => ?_)
          · refine oP_let fun p2 e_p2 => ?_
            refine oP_let fun g3 e => ?_
            have f_g3 : fX g0 g3 := by rw [e, e_p2]; exact fX_tr f_g2 fn253_xq
            clear e
            refine oP_ite (fun hb => ?_) (fun hb => ?_)
            · exact f_g3
            · refine oP_ite (fun hb => ?_) (fun hb => ?_)
              · exact f_g3
              · exact f_g3
          · exact f_g2
    · refine oP_let fun p1 e_p1 => ?_
      refine oP_let fun g2 e => ?_
      have f_g2 : fX g0 g2 := by rw [e, e_p1]; exact fX_tr f_g1 fn254_xq
      clear e
      refine oP_ite (fun hb => ?_) (fun hb => ?_)
      · exact f_g2
      · refine oP_ite (fun hb => ?_) (fun hb => ?_)
        · exact f_g2
        · exact f_g2
theorem fn256_xq {x : List Int} {g0 : rHp} : fX g0 (fn256 x g0).2.2 := by
  have f_g0 : fX g0 g0 := fX_refl
  refine zGoo_P (I := fun s => fX g0 s.2.2) fX_zero (fun s hs => ?_) ?_
  · unfold en256
    refine oS_ite (fun hb => ?_) (fun hb => ?_)
    · refine oS_let fun g1 e => ?_
      have f_g1 : fX g0 g1 := by rw [e]; exact hs
      clear e
      refine oS_dl ?_
      refine oS_dl ?_
      refine oS_dl ?_
      refine oS_dl ?_
      refine oS_dl ?_
      refine oS_dl ?_
      refine oS_dl ?_
      refine oS_dl ?_
      refine oS_ite (fun hb => ?_) (fun hb => ?_)
      · exact f_g1
      · refine oS_ite (fun hb => ?_) (fun hb => ?_)
        · exact f_g1
        · refine oS_ite (fun hb => ?_) (fun hb => ?_)
          · exact f_g1
          · refine oS_ite (fun hb => ?_) (fun hb => ?_)
            · refine oS_let fun p1 e_p1 => ?_
              refine oS_let fun g2 e => ?_
              have f_g2 : fX g0 g2 := by rw [e, e_p1]; exact fX_tr f_g1 fn227_xq
              clear e
              refine oS_dl ?_
              exact f_g2
            · refine oS_let fun p1 e_p1 => ?_
              refine oS_let fun g2 e => ?_
              have f_g2 : fX g0 g2 := by rw [e, e_p1]; exact fX_tr f_g1 fn225_xq
              clear e
              refine oS_ite (fun hb => ?_) (fun hb => ?_)
              · refine oS_let fun p2 e_p2 => ?_
                refine oS_let fun g3 e => ?_
                have f_g3 : fX g0 g3 := by rw [e, e_p2]; exact fX_tr f_g2 fn232_xq
                clear e
                refine oS_ite (fun hb => ?_) (fun hb => ?_)
                · refine oS_ite (fun hb => ?_) (fun hb => ?_)
                  · refine oS_let fun g4 e => ?_
                    have f_g4 : fX g0 g4 := by rw [e]; exact fX_6 f_g3 (by decide)
                    clear e
                    refine oS_let fun p4 e_p4 => ?_
                    refine oS_let fun g5 e => ?_
                    have f_g5 : fX g0 g5 := by rw [e, e_p4]; exact fX_tr f_g4 fn255_xq
                    clear e
                    refine oS_ite (fun hb => ?_) (fun hb => ?_)
                    · refine oS_dl ?_
                      refine oS_let fun g6 e => ?_
                      have f_g6 : fX g0 g6 := by rw [e]; exact fX_6 f_g5 (by decide)
                      clear e
                      refine oS_let fun p6 e_p6 => ?_
                      refine oS_let fun g7 e => ?_
                      have f_g7 : fX g0 g7 := by rw [e, e_p6]; exact fX_tr f_g6 fn227_xq
                      clear e
                      refine oS_dl ?_
                      exact f_g7
                    · refine oS_ite (fun hb => ?_) (fun hb => ?_)
                      · exact f_g5
                      · exact f_g5
                  · refine oS_dl ?_
                    refine oS_let fun g4 e => ?_
                    have f_g4 : fX g0 g4 := by rw [e]; exact fX_6 f_g3 (by decide)
                    clear e
                    refine oS_let fun p4 e_p4 => ?_
                    refine oS_let fun g5 e => ?_
                    have f_g5 : fX g0 g5 := by rw [e, e_p4]; exact fX_tr f_g4 fn255_xq
                    clear e
                    refine oS_ite (fun hb => ?_) (fun hb => ?_)
                    · refine oS_dl ?_
                      refine oS_dl ?_
                      refine oS_let fun g6 e => ?_
                      have f_g6 : fX g0 g6 := by rw [e]; exact fX_6 f_g5 (by decide)
                      clear e
                      refine oS_let fun p6 e_p6 => ?_
                      refine oS_let fun g7 e => ?_
                      have f_g7 : fX g0 g7 := by rw [e, e_p6]; exact fX_tr f_g6 fn227_xq
                      clear e
                      refine oS_dl ?_
                      exact f_g7
                    · refine oS_ite (fun hb => ?_) (fun hb => ?_)
                      · exact f_g5
                      · exact f_g5
                · exact f_g3
              · refine oS_let fun p2 e_p2 => ?_
                refine oS_let fun g3 e => ?_
                have f_g3 : fX g0 g3 := by rw [e, e_p2]; exact fX_tr f_g2 fn227_xq
                clear e
                refine oS_dl ?_
                exact f_g3
    · exact f_g0
  · unfold dn256
    refine oS_dl ?_
    refine oS_dl ?_
    refine oS_dl ?_
    refine oS_dl ?_
    refine oS_dl ?_
    refine oS_dl ?_
    refine oS_ite (fun hb => ?_) (fun hb => ?_)
    · refine oS_let fun p0 e_p0 => ?_
      refine oS_let fun g1 e => ?_
      have f_g1 : fX g0 g1 := by rw [e, e_p0]; exact fX_tr f_g0 fn226_xq
      clear e
      refine oS_dl ?_
      exact f_g1
    · refine oS_ite (fun hb => ?_) (fun hb => ?_)
      · refine oS_let fun p0 e_p0 => ?_
        refine oS_let fun g1 e => ?_
        have f_g1 : fX g0 g1 := by rw [e, e_p0]; exact fX_tr f_g0 fn226_xq
        clear e
        refine oS_dl ?_
        exact f_g1
      · refine oS_ite (fun hb => ?_) (fun hb => ?_)
        · refine oS_let fun p0 e_p0 => ?_
          refine oS_let fun g1 e => ?_
          have f_g1 : fX g0 g1 := by rw [e, e_p0]; exact fX_tr f_g0 fn226_xq
          clear e
          refine oS_dl ?_
          exact f_g1
        · refine oS_let fun p0 e_p0 => ?_
          refine oS_let fun g1 e => ?_
          have f_g1 : fX g0 g1 := by rw [e, e_p0]; exact fX_tr f_g0 fn226_xq
          clear e
          refine oS_dl ?_
          exact f_g1
theorem fn257_xq {x : List Int} {g0 : rHp} : fX g0 (fn257 x g0).2.2 := by
  have f_g0 : fX g0 g0 := fX_refl
  show oP (fun h => fX g0 h) (fn257 x g0)
  unfold fn257
  refine oP_dl ?_
  refine oP_dl ?_
  refine oP_dl ?_
  refine oP_ite (fun hb => ?_) (fun hb => ?_)
  · refine oP_let fun p0 e_p0 => ?_
    refine oP_let fun g1 e => ?_
    have f_g1 : fX g0 g1 := by rw [e, e_p0]; exact fX_tr f_g0 fn244_xq
    clear e
    refine oP_ite (fun hb => ?_) (fun hb => ?_)
    · exact f_g1
    · exact f_g1
  · refine oP_let fun p0 e_p0 => ?_
    refine oP_let fun g1 e => ?_
    have f_g1 : fX g0 g1 := by rw [e, e_p0]; exact fX_tr f_g0 fn132_xq
    clear e
    refine oP_ite (fun hb => ?_) (fun hb => ?_)
    · refine oP_ite (fun hb => ?_) (fun hb => ?_)
      · refine oP_ite (fun hb => ?_) (fun hb => ?_)
        · refine oP_let fun p1 e_p1 => ?_
          refine oP_let fun g2 e => ?_
          have f_g2 : fX g0 g2 := by rw [e, e_p1]; exact fX_tr f_g1 fn230_xq
          clear e
          refine oP_ite (fun hb => ?_) (fun hb => ?_)
          · refine oP_let fun p2 e_p2 => ?_
            refine oP_let fun g3 e => ?_
            have f_g3 : fX g0 g3 := by rw [e, e_p2]; exact fX_tr f_g2 fn255_xq
            clear e
            refine oP_ite (fun hb => ?_) (fun hb => ?_)
            · exact f_g3
            · refine oP_ite (fun hb => ?_) (fun hb => ?_)
              · exact f_g3
              · exact f_g3
          · exact f_g2
        · refine oP_let fun p1 e_p1 => ?_
          refine oP_let fun g2 e => ?_
          have f_g2 : fX g0 g2 := by rw [e, e_p1]; exact fX_tr f_g1 fn228_xq
          clear e
          refine oP_ite (fun hb => ?_) (fun hb => ?_)
          · exact f_g2
          · refine oP_let fun p2 e_p2 => ?_
            refine oP_let fun g3 e => ?_
            have f_g3 : fX g0 g3 := by rw [e, e_p2]; exact fX_tr f_g2 fn255_xq
            clear e
            refine oP_ite (fun hb => ?_) (fun hb => ?_)
            · exact f_g3
            · refine oP_ite (fun hb => ?_) (fun hb => ?_)
              · exact f_g3
              · exact f_g3
      · refine oP_ite (fun hb => ?_) (fun hb => ?_)
        · refine oP_let fun p1 e_p1 => ?_
          refine oP_let fun g2 e => ?_
          have f_g2 : fX g0 g2 := by rw [e, e_p1]; exact fX_tr f_g1 fn229_xq
          clear e
          refine oP_ite (fun hb => ?_) (fun hb => ?_)
          · refine oP_let fun p2 e_p2 => ?_
            refine oP_let fun g3 e => ?_
            have f_g3 : fX g0 g3 := by rw [e, e_p2]; exact fX_tr f_g2 fn255_xq
            clear e
            refine oP_ite (fun hb => ?_) (fun hb => ?_)
            · exact f_g3
            · refine oP_ite (fun hb => ?_) (fun hb => ?_)
              · exact f_g3
              · exact f_g3
          · exact f_g2
        · refine oP_let fun p1 e_p1 => ?_
          refine oP_let fun g2 e => ?_
          have f_g2 : fX g0 g2 := by rw [e, e_p1]; exact fX_tr f_g1 fn231_xq
          clear e
          refine oP_ite (fun hb => ?_) (fun hb => ?_)
          · refine oP_let fun p2 e_p2 => ?_
            refine oP_let fun g3 e => ?_
            have f_g3 : fX g0 g3 := by rw [e, e_p2]; exact fX_tr f_g2 fn255_xq
            clear e
            refine oP_ite (fun hb => ?_) (fun hb => ?_)
            · exact f_g3
            · refine oP_ite (fun hb => ?_) (fun hb => ?_)
              · exact f_g3
              · exact f_g3
          · exact f_g2
    · refine oP_let fun p1 e_p1 => ?_
      refine oP_let fun g2 e => ?_
      have f_g2 : fX g0 g2 := by rw [e, e_p1]; exact fX_tr f_g1 fn256_xq
      clear e
      refine oP_ite (fun hb => ?_) (fun hb => ?_)
      · exact f_g2
      · refine oP_ite (fun hb => ?_) (fun hb => ?_)
        · exact f_g2
        · exact f_g2
theorem fn258_xq {x : List Int} {g0 : rHp} : fX g0 (fn258 x g0).2.2 := by
  have f_g0 : fX g0 g0 := fX_refl
  refine zGoo_P (I := fun s => fX g0 s.2.2) fX_zero (fun s hs => ?_) ?_
  · unfold en258
    refine oS_ite (fun hb => ?_) (fun hb => ?_)
    · refine oS_let fun g1 e => ?_
      have f_g1 : fX g0 g1 := by rw [e]; exact hs
      clear e
      refine oS_dl ?_
      refine oS_dl ?_
      refine oS_dl ?_
      refine oS_dl ?_
      refine oS_dl ?_
      refine oS_dl ?_
      refine oS_dl ?_
      refine oS_dl ?_
      refine oS_ite (fun hb => ?_) (fun hb => ?_)
      · exact f_g1
      · refine oS_ite (fun hb => ?_) (fun hb => ?_)
        · exact f_g1
        · refine oS_ite (fun hb => ?_) (fun hb => ?_)
          · exact f_g1
          · refine oS_ite (fun hb => ?_) (fun hb => ?_)
            · refine oS_let fun p1 e_p1 => ?_
              refine oS_let fun g2 e => ?_
              have f_g2 : fX g0 g2 := by rw [e, e_p1]; exact fX_tr f_g1 fn227_xq
              clear e
              refine oS_dl ?_
              exact f_g2
            · refine oS_let fun p1 e_p1 => ?_
              refine oS_let fun g2 e => ?_
              have f_g2 : fX g0 g2 := by rw [e, e_p1]; exact fX_tr f_g1 fn225_xq
              clear e
              refine oS_ite (fun hb => ?_) (fun hb => ?_)
              · refine oS_let fun p2 e_p2 => ?_
                refine oS_let fun g3 e => ?_
                have f_g3 : fX g0 g3 := by rw [e, e_p2]; exact fX_tr f_g2 fn232_xq
                clear e
                refine oS_ite (fun hb => ?_) (fun hb => ?_)
                · refine oS_ite (fun hb => ?_) (fun hb => ?_)
                  · refine oS_let fun g4 e => ?_
                    have f_g4 : fX g0 g4 := by rw [e]; exact fX_6 f_g3 (by decide)
                    clear e
                    refine oS_let fun p4 e_p4 => ?_
                    refine oS_let fun g5 e => ?_
                    have f_g5 : fX g0 g5 := by rw [e, e_p4]; exact fX_tr f_g4 fn257_xq
                    clear e
                    refine oS_ite (fun hb => ?_) (fun hb => ?_)
                    · refine oS_dl ?_
                      refine oS_let fun g6 e => ?_
                      have f_g6 : fX g0 g6 := by rw [e]; exact fX_6 f_g5 (by decide)
                      clear e
                      refine oS_let fun p6 e_p6 => ?_
                      refine oS_let fun g7 e => ?_
                      have f_g7 : fX g0 g7 := by rw [e, e_p6]; exact fX_tr f_g6 fn227_xq
                      clear e
                      refine oS_dl ?_
                      exact f_g7
                    · refine oS_ite (fun hb => ?_) (fun hb => ?_)
                      · exact f_g5
                      · exact f_g5
                  · refine oS_dl ?_
                    refine oS_let fun g4 e => ?_
                    have f_g4 : fX g0 g4 := by rw [e]; exact fX_6 f_g3 (by decide)
                    clear e
                    refine oS_let fun p4 e_p4 => ?_
                    refine oS_let fun g5 e => ?_
                    have f_g5 : fX g0 g5 := by rw [e, e_p4]; exact fX_tr f_g4 fn257_xq
                    clear e
                    refine oS_ite (fun hb => ?_) (fun hb => ?_)
                    · refine oS_dl ?_
                      refine oS_dl ?_
                      refine oS_let fun g6 e => ?_
                      have f_g6 : fX g0 g6 := by rw [e]; exact fX_6 f_g5 (by decide)
                      clear e
                      refine oS_let fun p6 e_p6 => ?_
                      refine oS_let fun g7 e => ?_
                      have f_g7 : fX g0 g7 := by rw [e, e_p6]; exact fX_tr f_g6 fn227_xq
                      clear e
                      refine oS_dl ?_
                      exact f_g7
                    · refine oS_ite (fun hb => ?_) (fun hb => ?_)
                      · exact f_g5
                      · exact f_g5
                · exact f_g3
              · refine oS_let fun p2 e_p2 => ?_
                refine oS_let fun g3 e => ?_
                have f_g3 : fX g0 g3 := by rw [e, e_p2]; exact fX_tr f_g2 fn227_xq
                clear e
                refine oS_dl ?_
                exact f_g3
    · exact f_g0
  · unfold dn258
    refine oS_dl ?_
    refine oS_dl ?_
    refine oS_dl ?_
    refine oS_dl ?_
    refine oS_dl ?_
    refine oS_dl ?_
    refine oS_ite (fun hb => ?_) (fun hb => ?_)
    · refine oS_let fun p0 e_p0 => ?_
      refine oS_let fun g1 e => ?_
      have f_g1 : fX g0 g1 := by rw [e, e_p0]; exact fX_tr f_g0 fn226_xq
      clear e
      refine oS_dl ?_
      exact f_g1
    · refine oS_ite (fun hb => ?_) (fun hb => ?_)
      · refine oS_let fun p0 e_p0 => ?_
        refine oS_let fun g1 e => ?_
        have f_g1 : fX g0 g1 := by rw [e, e_p0]; exact fX_tr f_g0 fn226_xq
        clear e
        refine oS_dl ?_
        exact f_g1
      · refine oS_ite (fun hb => ?_) (fun hb => ?_)
        · refine oS_let fun p0 e_p0 => ?_
          refine oS_let fun g1 e => ?_
          have f_g1 : fX g0 g1 := by rw [e, e_p0]; exact fX_tr f_g0 fn226_xq
          clear e
          refine oS_dl ?_
          exact f_g1
        · refine oS_let fun p0 e_p0 => ?_
          refine oS_let fun g1 e => ?_
          have f_g1 : fX g0 g1 := by rw [e, e_p0]; exact fX_tr f_g0 fn226_xq
          clear e
          refine oS_dl ?_
          exact f_g1
theorem fn259_xq {x : List Int} {g0 : rHp} : fX g0 (fn259 x g0).2.2 := by
  have f_g0 : fX g0 g0 := fX_refl
  show oP (fun h => fX g0 h) (fn259 x g0)
  unfold fn259
  refine oP_dl ?_
  refine oP_dl ?_
  refine oP_dl ?_
  refine oP_ite (fun hb => ?_) (fun hb => ?_)
  · refine oP_let fun p0 e_p0 => ?_
    refine oP_let fun g1 e => ?_
    have f_g1 : fX g0 g1 := by rw [e, e_p0]; exact fX_tr f_g0 fn244_xq
    clear e
    refine oP_ite (fun hb => ?_) (fun hb => ?_)
    · exact f_g1
    · exact f_g1
  · refine oP_let fun p0 e_p0 => ?_
    refine oP_let fun g1 e => ?_
    have f_g1 : fX g0 g1 := by rw [e, e_p0]; exact fX_tr f_g0 fn132_xq
    clear e
    refine oP_ite (fun hb => ?_) (fun hb => ?_)
    · refine oP_ite (fun hb => ?_) (fun hb => ?_)
      · refine oP_ite (fun hb => ?_) (fun hb => ?_)
        · refine oP_let fun p1 e_p1 => ?_
          refine oP_let fun g2 e => ?_
          have f_g2 : fX g0 g2 := by rw [e, e_p1]; exact fX_tr f_g1 fn230_xq
          clear e
          refine oP_ite (fun hb => ?_) (fun hb => ?_)
          · refine oP_let fun p2 e_p2 => ?_
            refine oP_let fun g3 e => ?_
            have f_g3 : fX g0 g3 := by rw [e, e_p2]; exact fX_tr f_g2 fn257_xq
            clear e
            refine oP_ite (fun hb => ?_) (fun hb => ?_)
            · exact f_g3
            · refine oP_ite (fun hb => ?_) (fun hb => ?_)
              · exact f_g3
              · exact f_g3
          · exact f_g2
        · refine oP_let fun p1 e_p1 => ?_
          refine oP_let fun g2 e => ?_
          have f_g2 : fX g0 g2 := by rw [e, e_p1]; exact fX_tr f_g1 fn228_xq
          clear e
          refine oP_ite (fun hb => ?_) (fun hb => ?_)
          · exact f_g2
          · refine oP_let fun p2 e_p2 => ?_
            refine oP_let fun g3 e => ?_
            have f_g3 : fX g0 g3 := by rw [e, e_p2]; exact fX_tr f_g2 fn257_xq
            clear e
            refine oP_ite (fun hb => ?_) (fun hb => ?_)
            · exact f_g3
            · refine oP_ite (fun hb => ?_) (fun hb => ?_)
              · exact f_g3
              · exact f_g3
      · refine oP_ite (fun hb => ?_) (fun hb => ?_)
        · refine oP_let fun p1 e_p1 => ?_
          refine oP_let fun g2 e => ?_
          have f_g2 : fX g0 g2 := by rw [e, e_p1]; exact fX_tr f_g1 fn229_xq
          clear e
          refine oP_ite (fun hb => ?_) (fun hb => ?_)
          · refine oP_let fun p2 e_p2 => ?_
            refine oP_let fun g3 e => ?_
            have f_g3 : fX g0 g3 := by rw [e, e_p2]; exact fX_tr f_g2 fn257_xq
            clear e
            refine oP_ite (fun hb => ?_) (fun hb => ?_)
            · exact f_g3
            · refine oP_ite (fun hb => ?_) (fun hb => ?_)
              · exact f_g3
              · exact f_g3
          · exact f_g2
        · refine oP_let fun p1 e_p1 => ?_
          refine oP_let fun g2 e => ?_
          have f_g2 : fX g0 g2 := by rw [e, e_p1]; exact fX_tr f_g1 fn231_xq
          clear e
          refine oP_ite (fun hb => ?_) (fun hb => ?_)
          · refine oP_let fun p2 e_p2 => ?_
            refine oP_let fun g3 e => ?_
            have f_g3 : fX g0 g3 := by rw [e, e_p2]; exact fX_tr f_g2 fn257_xq
            clear e
            refine oP_ite (fun hb => ?_) (fun hb => ?_)
            · exact f_g3
            · refine oP_ite (fun hb => ?_) (fun hb => ?_)
              · exact f_g3
              · exact f_g3
          · exact f_g2
    · refine oP_let fun p1 e_p1 => ?_
      refine oP_let fun g2 e => ?_
      have f_g2 : fX g0 g2 := by rw [e, e_p1]; exact fX_tr f_g1 fn258_xq
      clear e
      refine oP_ite (fun hb => ?_) (fun hb => ?_)
      · exact f_g2
      · refine oP_ite (fun hb => ?_) (fun hb => ?_)
        · exact f_g2
        · exact f_g2
theorem fn260_xq {x : List Int} {g0 : rHp} : fX g0 (fn260 x g0).2.2 := by
  have f_g0 : fX g0 g0 := fX_refl
  refine zGoo_P (I := fun s => fX g0 s.2.2) fX_zero (fun s hs => ?_) ?_
  · unfold en260
    refine oS_ite (fun hb => ?_) (fun hb => ?_)
    · refine oS_let fun g1 e => ?_
      have f_g1 : fX g0 g1 := by rw [e]; exact hs
      clear e
      refine oS_dl ?_
      refine oS_dl ?_
      refine oS_dl ?_
      refine oS_dl ?_
      refine oS_dl ?_
      refine oS_dl ?_
      refine oS_dl ?_
      refine oS_dl ?_
      refine oS_ite (fun hb => ?_) (fun hb => ?_)
      · exact f_g1
      · refine oS_ite (fun hb => ?_) (fun hb => ?_)
        · exact f_g1
        · refine oS_ite (fun hb => ?_) (fun hb => ?_)
          · exact f_g1
          · refine oS_ite (fun hb => ?_) (fun hb => ?_)
            · refine oS_let fun p1 e_p1 => ?_
              refine oS_let fun g2 e => ?_
              have f_g2 : fX g0 g2 := by rw [e, e_p1]; exact fX_tr f_g1 fn227_xq
              clear e
              refine oS_dl ?_
              exact f_g2
            · refine oS_let fun p1 e_p1 => ?_
              refine oS_let fun g2 e => ?_
              have f_g2 : fX g0 g2 := by rw [e, e_p1]; exact fX_tr f_g1 fn225_xq
              clear e
              refine oS_ite (fun hb => ?_) (fun hb => ?_)
              · refine oS_let fun p2 e_p2 => ?_
                refine oS_let fun g3 e => ?_
                have f_g3 : fX g0 g3 := by rw [e, e_p2]; exact fX_tr f_g2 fn232_xq
                clear e
                refine oS_ite (fun hb => ?_) (fun hb => ?_)
                · refine oS_ite (fun hb => ?_) (fun hb => ?_)
                  · refine oS_let fun g4 e => ?_
                    have f_g4 : fX g0 g4 := by rw [e]; exact fX_6 f_g3 (by decide)
                    clear e
                    refine oS_let fun p4 e_p4 => ?_
                    refine oS_let fun g5 e => ?_
                    have f_g5 : fX g0 g5 := by rw [e, e_p4]; exact fX_tr f_g4 fn259_xq
                    clear e
                    refine oS_ite (fun hb => ?_) (fun hb => ?_)
                    · refine oS_dl ?_
                      refine oS_let fun g6 e => ?_
                      have f_g6 : fX g0 g6 := by rw [e]; exact fX_6 f_g5 (by decide)
                      clear e
                      refine oS_let fun p6 e_p6 => ?_
                      refine oS_let fun g7 e => ?_
                      have f_g7 : fX g0 g7 := by rw [e, e_p6]; exact fX_tr f_g6 fn227_xq
                      clear e
                      refine oS_dl ?_
                      exact f_g7
                    · refine oS_ite (fun hb => ?_) (fun hb => ?_)
                      · exact f_g5
                      · exact f_g5
                  · refine oS_dl ?_
                    refine oS_let fun g4 e => ?_
                    have f_g4 : fX g0 g4 := by rw [e]; exact fX_6 f_g3 (by decide)
                    clear e
                    refine oS_let fun p4 e_p4 => ?_
                    refine oS_let fun g5 e => ?_
                    have f_g5 : fX g0 g5 := by rw [e, e_p4]; exact fX_tr f_g4 fn259_xq
                    clear e
                    refine oS_ite (fun hb => ?_) (fun hb => ?_)
                    · refine oS_dl ?_
                      refine oS_dl ?_
                      refine oS_let fun g6 e => ?_
                      have f_g6 : fX g0 g6 := by rw [e]; exact fX_6 f_g5 (by decide)
                      clear e
                      refine oS_let fun p6 e_p6 => ?_
                      refine oS_let fun g7 e => ?_
                      have f_g7 : fX g0 g7 := by rw [e, e_p6]; exact fX_tr f_g6 fn227_xq
                      clear e
                      refine oS_dl ?_
                      exact f_g7
                    · refine oS_ite (fun hb => ?_) (fun hb => ?_)
                      · exact f_g5
                      · exact f_g5
                · exact f_g3
              · refine oS_let fun p2 e_p2 => ?_
                refine oS_let fun g3 e => ?_
                have f_g3 : fX g0 g3 := by rw [e, e_p2]; exact fX_tr f_g2 fn227_xq
                clear e
                refine oS_dl ?_
                exact f_g3
    · exact f_g0
  · unfold dn260
    refine oS_dl ?_
    refine oS_dl ?_
    refine oS_dl ?_
    refine oS_dl ?_
    refine oS_dl ?_
    refine oS_dl ?_
    refine oS_ite (fun hb => ?_) (fun hb => ?_)
    · refine oS_let fun p0 e_p0 => ?_
      refine oS_let fun g1 e => ?_
      have f_g1 : fX g0 g1 := by rw [e, e_p0]; exact fX_tr f_g0 fn226_xq
      clear e
      refine oS_dl ?_
      exact f_g1
    · refine oS_ite (fun hb => ?_) (fun hb => ?_)
      · refine oS_let fun p0 e_p0 => ?_
        refine oS_let fun g1 e => ?_
        have f_g1 : fX g0 g1 := by rw [e, e_p0]; exact fX_tr f_g0 fn226_xq
        clear e
        refine oS_dl ?_
        exact f_g1
      · refine oS_ite (fun hb => ?_) (fun hb => ?_)
        · refine oS_let fun p0 e_p0 => ?_
          refine oS_let fun g1 e => ?_
          have f_g1 : fX g0 g1 := by rw [e, e_p0]; exact fX_tr f_g0 fn226_xq
          clear e
          refine oS_dl ?_
          exact f_g1
        · refine oS_let fun p0 e_p0 => ?_
          refine oS_let fun g1 e => ?_
          have f_g1 : fX g0 g1 := by rw [e, e_p0]; exact fX_tr f_g0 fn226_xq
          clear e
          refine oS_dl ?_
          exact f_g1
theorem fn261_xq {x : List Int} {g0 : rHp} : fX g0 (fn261 x g0).2.2 := by
  have f_g0 : fX g0 g0 := fX_refl
  show oP (fun h => fX g0 h) (fn261 x g0)
  unfold fn261
  refine oP_dl ?_
  refine oP_dl ?_
  refine oP_dl ?_
  refine oP_ite (fun hb => ?_) (fun hb => ?_)
  · refine oP_let fun p0 e_p0 => ?_
    refine oP_let fun g1 e => ?_
    have f_g1 : fX g0 g1 := by rw [e, e_p0]; exact fX_tr f_g0 fn244_xq
    clear e
    refine oP_ite (fun hb => ?_) (fun hb => ?_)
    · exact f_g1
    · exact f_g1
  · refine oP_let fun p0 e_p0 => ?_
    refine oP_let fun g1 e => ?_
    have f_g1 : fX g0 g1 := by rw [e, e_p0]; exact fX_tr f_g0 fn132_xq
    clear e
    refine oP_ite (fun hb => ?_) (fun hb => ?_)
    · refine oP_ite (fun hb => ?_) (fun hb => ?_)
      · refine oP_ite (fun hb => ?_) (fun hb => ?_)
        · refine oP_let fun p1 e_p1 => ?_
          refine oP_let fun g2 e => ?_
          have f_g2 : fX g0 g2 := by rw [e, e_p1]; exact fX_tr f_g1 fn230_xq
          clear e
          refine oP_ite (fun hb => ?_) (fun hb => ?_)
          · refine oP_let fun p2 e_p2 => ?_
            refine oP_let fun g3 e => ?_
            have f_g3 : fX g0 g3 := by rw [e, e_p2]; exact fX_tr f_g2 fn259_xq
            clear e
            refine oP_ite (fun hb => ?_) (fun hb => ?_)
            · exact f_g3
            · refine oP_ite (fun hb => ?_) (fun hb => ?_)
              · exact f_g3
              · exact f_g3
          · exact f_g2
        · refine oP_let fun p1 e_p1 => ?_
          refine oP_let fun g2 e => ?_
          have f_g2 : fX g0 g2 := by rw [e, e_p1]; exact fX_tr f_g1 fn228_xq
          clear e
          refine oP_ite (fun hb => ?_) (fun hb => ?_)
          · exact f_g2
          · refine oP_let fun p2 e_p2 => ?_
            refine oP_let fun g3 e => ?_
            have f_g3 : fX g0 g3 := by rw [e, e_p2]; exact fX_tr f_g2 fn259_xq
            clear e
            refine oP_ite (fun hb => ?_) (fun hb => ?_)
            · exact f_g3
            · refine oP_ite (fun hb => ?_) (fun hb => ?_)
              · exact f_g3
              · exact f_g3
      · refine oP_ite (fun hb => ?_) (fun hb => ?_)
        · refine oP_let fun p1 e_p1 => ?_
          refine oP_let fun g2 e => ?_
          have f_g2 : fX g0 g2 := by rw [e, e_p1]; exact fX_tr f_g1 fn229_xq
          clear e
          refine oP_ite (fun hb => ?_) (fun hb => ?_)
          · refine oP_let fun p2 e_p2 => ?_
            refine oP_let fun g3 e => ?_
            have f_g3 : fX g0 g3 := by rw [e, e_p2]; exact fX_tr f_g2 fn259_xq
            clear e
            refine oP_ite (fun hb => ?_) (fun hb => ?_)
            · exact f_g3
            · refine oP_ite (fun hb => ?_) (fun hb => ?_)
              · exact f_g3
              · exact f_g3
          · exact f_g2
        · refine oP_let fun p1 e_p1 => ?_
          refine oP_let fun g2 e => ?_
          have f_g2 : fX g0 g2 := by rw [e, e_p1]; exact fX_tr f_g1 fn231_xq
          clear e
          refine oP_ite (fun hb => ?_) (fun hb => ?_)
          · refine oP_let fun p2 e_p2 => ?_
            refine oP_let fun g3 e => ?_
            have f_g3 : fX g0 g3 := by rw [e, e_p2]; exact fX_tr f_g2 fn259_xq
            clear e
            refine oP_ite (fun hb => ?_) (fun hb => ?_)
            · exact f_g3
            · refine oP_ite (fun hb => ?_) (fun hb => ?_)
              · exact f_g3
              · exact f_g3
          · exact f_g2
    · refine oP_let fun p1 e_p1 => ?_
      refine oP_let fun g2 e => ?_
      have f_g2 : fX g0 g2 := by rw [e, e_p1]; exact fX_tr f_g1 fn260_xq
      clear e
      refine oP_ite (fun hb => ?_) (fun hb => ?_)
      · exact f_g2
      · refine oP_ite (fun hb => ?_) (fun hb => ?_)
        · exact f_g2
        · exact f_g2
/-- the engine asked: n0 the question, n1 where answers go -/
theorem fn262_xq {n0 n1 : Int} {g0 : rHp} (z : ∃ j, (fn262 [n0, n1] g0).2.2 40 0 j ≠ 0) : (∀ K : Nat, K ∉ [6, 8, 37, 38, 41] → (fn262 [n0, n1] g0).2.2 K = g0 K) ∧ (∀ h, h ≠ n1 → (fn262 [n0, n1] g0).2.2 8 h = g0 8 h ∧ (fn262 [n0, n1] g0).2.2 41 h = g0 41 h) ∧ ∀ h j, j ≠ 1 → (fn262 [n0, n1] g0).2.2 8 h j = g0 8 h j := by
  have e : (fn262 [n0, n1] g0).2.2 = (fn261 [] (rUp (rUp (rUp (rUp (rUp (rUp (rUp (rUp g0 6 0 9 2) 6 0 10 0) 6 0 7 n0) 6 0 8 (-1)) 6 0 13 0) 6 0 6 n1) 6 0 11 (g0 4 0 7)) 6 0 0 0)).2.2 := by
    unfold fn262 fn241
    simp only [zLet, List.getD_cons_zero, List.getD_cons_succ]
    split <;> rfl
  rw [e] at z ⊢
  have g9 : (rUp (rUp (rUp (rUp (rUp (rUp (rUp (rUp g0 6 0 9 2) 6 0 10 0) 6 0 7 n0) 6 0 8 (-1)) 6 0 13 0) 6 0 6 n1) 6 0 11 (g0 4 0 7)) 6 0 0 0) 6 0 9 = 2 := by
    rw [rUp_ne (by decide), rUp_ne (by decide), rUp_ne (by decide), rUp_ne (by decide), rUp_ne (by decide), rUp_ne (by decide), rUp_ne (by decide), rUp_at]
  have g6 : (rUp (rUp (rUp (rUp (rUp (rUp (rUp (rUp g0 6 0 9 2) 6 0 10 0) 6 0 7 n0) 6 0 8 (-1)) 6 0 13 0) 6 0 6 n1) 6 0 11 (g0 4 0 7)) 6 0 0 0) 6 0 6 = n1 := by
    rw [rUp_ne (by decide), rUp_ne (by decide), rUp_at]
  have gk : ∀ K : Nat, K ≠ 6 → (rUp (rUp (rUp (rUp (rUp (rUp (rUp (rUp g0 6 0 9 2) 6 0 10 0) 6 0 7 n0) 6 0 8 (-1)) 6 0 13 0) 6 0 6 n1) 6 0 11 (g0 4 0 7)) 6 0 0 0) K = g0 K := fun K q => by
    rw [rUp_grp q, rUp_grp q, rUp_grp q, rUp_grp q, rUp_grp q, rUp_grp q, rUp_grp q, rUp_grp q]
  generalize (rUp (rUp (rUp (rUp (rUp (rUp (rUp (rUp g0 6 0 9 2) 6 0 10 0) 6 0 7 n0) 6 0 8 (-1)) 6 0 13 0) 6 0 6 n1) 6 0 11 (g0 4 0 7)) 6 0 0 0) = g4 at *
  obtain ⟨x0, x9⟩ := fn261_xq (x := []) (g0 := g4) z
  obtain ⟨x1, x2, x3, x4⟩ := x9 g9
  rw [g6] at x3
  refine ⟨fun K q => ?_, fun h q => ?_, fun h j q => by rw [x4 h j q, gk 8 (by decide)]⟩
  · rw [x1 K q]
    exact gk K (by rintro rfl; exact absurd q (by decide))
  · rw [(x3 h q).1, (x3 h q).2, gk 8 (by decide), gk 41 (by decide)]
    exact ⟨rfl, rfl⟩
