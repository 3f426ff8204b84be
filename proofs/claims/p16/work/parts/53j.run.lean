/-! ===== a run leaves no answers; a run that fails leaves the counts of the last ===== -/
noncomputable def fV (g g_q : rHp) : Prop := (∃ j, g_q 40 0 j ≠ 0) → g_q 40 = g 40 ∧ (g 6 0 9 ≠ 2 → g_q 8 = g 8 ∧ g_q 6 0 9 ≠ 2)
theorem fV_refl {g : rHp} : fV g g := fun _ => ⟨rfl, fun w => ⟨rfl, w⟩⟩
theorem fV_zero {g : rHp} : fV g (fun _ _ _ => 0) := fun ⟨_, h⟩ => absurd rfl h
theorem fV_tr {a b c : rHp} (h1 : fV a b) (h2 : fV b c) : fV a c := fun z => by
  obtain ⟨b0, b9⟩ := h2 z
  obtain ⟨a0, a9⟩ := h1 (by rw [← b0]; exact z)
  refine ⟨b0.trans a0, fun w => ?_⟩
  obtain ⟨a1, a2⟩ := a9 w
  obtain ⟨b1, b2⟩ := b9 a2
  exact ⟨b1.trans a1, b2⟩
theorem fV_up {a b : rHp} {K : Nat} {o j v : Int} (h : fV a b) (hK : K ≠ 6 ∧ K ≠ 8 ∧ K ≠ 40) : fV a (rUp b K o j v) := by
  unfold fV
  rw [rUp_grp (Ne.symm hK.1), rUp_grp (Ne.symm hK.2.1), rUp_grp (Ne.symm hK.2.2)]
  exact h
theorem fV_cp {a b : rHp} {K K2 : Nat} {o j o2 j2 n : Int} (h : fV a b) (hK : K2 ≠ 6 ∧ K2 ≠ 8 ∧ K2 ≠ 40) : fV a (zCpy b K o j K2 o2 j2 n) := by
  unfold fV
  rw [zCpy_grp (Ne.symm hK.1), zCpy_grp (Ne.symm hK.2.1), zCpy_grp (Ne.symm hK.2.2)]
  exact h
theorem fV_6 {a b : rHp} {j v : Int} (h : fV a b) (hj : j ≠ 9) : fV a (rUp b 6 0 j v) := by
  unfold fV
  rw [rUp_grp (show (40 : Nat) ≠ 6 by decide), rUp_grp (show (8 : Nat) ≠ 6 by decide), rUp_ne (show ¬ ((6 : Nat) = 6 ∧ (0 : Int) = 0 ∧ (9 : Int) = j) from fun w => hj w.2.2.symm)]
  exact h
theorem fn242_40 {n : Int} {g0 : rHp} : (fn242 [n] g0).2.2 40 = g0 40 := by
  unfold fn242
  simp only [zLet, List.getD_cons_zero]
  split
  · show rUp g0 8 n 1 (g0 8 n 1 + 1) 40 = g0 40; rw [rUp_grp (by decide)]
  · dsimp only
    rw [rUp_grp (by decide), zCpy_grp (by decide)]
noncomputable def fU2 (g g_q : rHp) : Prop := (∃ j, g_q 40 0 j ≠ 0) → g_q 40 = g 40 ∧ g_q 8 = g 8
theorem fU2_refl {g : rHp} : fU2 g g := fun _ => ⟨rfl, rfl⟩
theorem fU2_zero {g : rHp} : fU2 g (fun _ _ _ => 0) := fun ⟨_, h⟩ => absurd rfl h
theorem fU2_tr {a b c : rHp} (h1 : fU2 a b) (h2 : fU2 b c) : fU2 a c := fun z => by
  obtain ⟨b0, b9⟩ := h2 z
  obtain ⟨a0, a9⟩ := h1 (by rw [← b0]; exact z)
  exact ⟨b0.trans a0, b9.trans a9⟩
theorem fU2_up {a b : rHp} {K : Nat} {o j v : Int} (h : fU2 a b) (hK : K ≠ 8 ∧ K ≠ 40) : fU2 a (rUp b K o j v) := by
  unfold fU2
  rw [rUp_grp (Ne.symm hK.1), rUp_grp (Ne.symm hK.2)]
  exact h
theorem fU2_cp {a b : rHp} {K K2 : Nat} {o j o2 j2 n : Int} (h : fU2 a b) (hK : K2 ≠ 8 ∧ K2 ≠ 40) : fU2 a (zCpy b K o j K2 o2 j2 n) := by
  unfold fU2
  rw [zCpy_grp (Ne.symm hK.1), zCpy_grp (Ne.symm hK.2)]
  exact h
noncomputable def fL1 (g g_q : rHp) : Prop := (∃ j, g_q 40 0 j ≠ 0) → g_q 40 = g 40 ∧ g_q 8 = g 8 ∧ g_q 6 0 9 ≠ 2
theorem fL1_0 {a b : rHp} (h : fL1 a b) : fU2 a b := fun z => ⟨(h z).1, (h z).2.1⟩
theorem fL1_v {a b c : rHp} (h : fL1 a b) (k : fV b c) : fL1 a c := fun z => by
  obtain ⟨k0, k9⟩ := k z
  obtain ⟨a0, a1, a2⟩ := h (by rw [← k0]; exact z)
  obtain ⟨b1, b2⟩ := k9 a2
  exact ⟨k0.trans a0, b1.trans a1, b2⟩
theorem fL1_set {a b : rHp} {x : List Int} {c : rHp} (h : fU2 a b) (e40 : c 40 = b 40) (e8 : c 8 = b 8) (e9 : c 6 0 9 ≠ 2) : fL1 a c := fun z => by
  obtain ⟨a0, a1⟩ := h (by rw [← e40]; exact z)
  exact ⟨e40.trans a0, e8.trans a1, e9⟩
theorem fn238_st {a b : rHp} {x : List Int} (h : fU2 a b) : fL1 a (fn238 x b).2.2 := by
  refine fL1_set (x := x) h ?_ ?_ ?_
  · unfold fn238
    simp only [zLet]
    rw [rUp_grp (by decide), rUp_grp (by decide), rUp_grp (by decide), rUp_grp (by decide), rUp_grp (by decide)]
  · unfold fn238
    simp only [zLet]
    rw [rUp_grp (by decide), rUp_grp (by decide), rUp_grp (by decide), rUp_grp (by decide), rUp_grp (by decide)]
  · unfold fn238
    simp only [zLet]
    rw [rUp_ne (by decide), rUp_ne (by decide), rUp_ne (by decide), rUp_ne (by decide), rUp_at]
    decide
theorem fn239_st {a b : rHp} {x : List Int} (h : fU2 a b) : fL1 a (fn239 x b).2.2 := by
  refine fL1_set (x := x) h ?_ ?_ ?_
  · unfold fn239
    simp only [zLet]
    rw [rUp_grp (by decide), rUp_grp (by decide), rUp_grp (by decide), rUp_grp (by decide), rUp_grp (by decide)]
  · unfold fn239
    simp only [zLet]
    rw [rUp_grp (by decide), rUp_grp (by decide), rUp_grp (by decide), rUp_grp (by decide), rUp_grp (by decide)]
  · unfold fn239
    simp only [zLet]
    rw [rUp_ne (by decide), rUp_ne (by decide), rUp_ne (by decide), rUp_ne (by decide), rUp_at]
    decide
theorem fn240_st {a b : rHp} {x : List Int} (h : fU2 a b) : fL1 a (fn240 x b).2.2 := by
  refine fL1_set (x := x) h ?_ ?_ ?_
  · unfold fn240
    simp only [zLet]
    rw [rUp_grp (by decide), rUp_grp (by decide), rUp_grp (by decide), rUp_grp (by decide), rUp_grp (by decide)]
  · unfold fn240
    simp only [zLet]
    rw [rUp_grp (by decide), rUp_grp (by decide), rUp_grp (by decide), rUp_grp (by decide), rUp_grp (by decide)]
  · unfold fn240
    simp only [zLet]
    rw [rUp_ne (by decide), rUp_ne (by decide), rUp_ne (by decide), rUp_ne (by decide), rUp_at]
    decide
theorem fn98_vq {x : List Int} {g0 : rHp} : fV g0 (fn98 x g0).2.2 := by
  have f_g0 : fV g0 g0 := fV_refl
  refine zGoo_P (I := fun s => fV g0 s.2.2) fV_zero (fun s hs => ?_) ?_
  · unfold en98
    refine oS_ite (fun hb => ?_) (fun hb => ?_)
    · refine oS_let fun g1 e => ?_
      have f_g1 : fV g0 g1 := by rw [e]; exact hs
      clear e
      refine oS_dl ?_
      refine oS_dl ?_
      refine oS_ite (fun hb => ?_) (fun hb => ?_)
      · exact f_g1
      · refine oS_let fun g2 e => ?_
        have f_g2 : fV g0 g2 := by rw [e]; exact fV_up f_g1 (by decide)
        clear e
        exact f_g2
    · exact f_g0
  · unfold dn98
    refine oS_dl ?_
    exact f_g0
theorem fn100_vq {x : List Int} {g0 : rHp} : fV g0 (fn100 x g0).2.2 := by
  have f_g0 : fV g0 g0 := fV_refl
  show oP (fun h => fV g0 h) (fn100 x g0)
  unfold fn100
  refine oP_dl ?_
  refine oP_dl ?_
  refine oP_ite (fun hb => ?_) (fun hb => ?_)
  · exact f_g0
  · exact f_g0
theorem fn101_vq {x : List Int} {g0 : rHp} : fV g0 (fn101 x g0).2.2 := by
  have f_g0 : fV g0 g0 := fV_refl
  show oP (fun h => fV g0 h) (fn101 x g0)
  unfold fn101
  refine oP_dl ?_
  refine oP_dl ?_
  refine oP_ite (fun hb => ?_) (fun hb => ?_)
  · exact f_g0
  · exact f_g0
theorem fn131_vq {x : List Int} {g0 : rHp} : fV g0 (fn131 x g0).2.2 := by
  have f_g0 : fV g0 g0 := fV_refl
  show oP (fun h => fV g0 h) (fn131 x g0)
  unfold fn131
  refine oP_dl ?_
  refine oP_dl ?_
  exact f_g0
theorem fn132_vq {x : List Int} {g0 : rHp} : fV g0 (fn132 x g0).2.2 := by
  have f_g0 : fV g0 g0 := fV_refl
  show oP (fun h => fV g0 h) (fn132 x g0)
  unfold fn132
  refine oP_dl ?_
  refine oP_dl ?_
  exact f_g0
theorem fn172_vq {x : List Int} {g0 : rHp} : fV g0 (fn172 x g0).2.2 := by
  have f_g0 : fV g0 g0 := fV_refl
  show oP (fun h => fV g0 h) (fn172 x g0)
  unfold fn172
  refine oP_dl ?_
  refine oP_ite (fun hb => ?_) (fun hb => ?_)
  · exact f_g0
  · exact f_g0
theorem fn187_vq {x : List Int} {g0 : rHp} : fV g0 (fn187 x g0).2.2 := by
  have f_g0 : fV g0 g0 := fV_refl
  show oP (fun h => fV g0 h) (fn187 x g0)
  unfold fn187
  refine oP_dl ?_
  refine oP_dl ?_
  refine oP_dl ?_
  refine oP_dl ?_
  exact f_g0
theorem fn188_vq {x : List Int} {g0 : rHp} : fV g0 (fn188 x g0).2.2 := by
  have f_g0 : fV g0 g0 := fV_refl
  show oP (fun h => fV g0 h) (fn188 x g0)
  unfold fn188
  refine oP_dl ?_
  refine oP_ite (fun hb => ?_) (fun hb => ?_)
  · exact f_g0
  · refine oP_ite (fun hb => ?_) (fun hb => ?_)
    · exact f_g0
    · refine oP_dl ?_
      exact f_g0
theorem fn189_vq {x : List Int} {g0 : rHp} : fV g0 (fn189 x g0).2.2 := by
  have f_g0 : fV g0 g0 := fV_refl
  show oP (fun h => fV g0 h) (fn189 x g0)
  unfold fn189
  refine oP_dl ?_
  refine oP_dl ?_
  refine oP_dl ?_
  refine oP_dl ?_
  refine oP_ite (fun hb => ?_) (fun hb => ?_)
  · exact f_g0
  · refine oP_ite (fun hb => ?_) (fun hb => ?_)
    · refine oP_let fun g1 e => ?_
      have f_g1 : fV g0 g1 := by rw [e]; exact fV_up f_g0 (by decide)
      clear e
      refine oP_dl ?_
      refine oP_ite (fun hb => ?_) (fun hb => ?_)
      · refine oP_dl ?_
        refine oP_let fun g2 e => ?_
        have f_g2 : fV g0 g2 := by rw [e]; exact fV_up f_g1 (by decide)
        clear e
        refine oP_let fun g3 e => ?_
        have f_g3 : fV g0 g3 := by rw [e]; exact fV_up f_g2 (by decide)
        clear e
        exact f_g3
      · refine oP_let fun g2 e => ?_
        have f_g2 : fV g0 g2 := by rw [e]; exact fV_up f_g1 (by decide)
        clear e
        refine oP_let fun g3 e => ?_
        have f_g3 : fV g0 g3 := by rw [e]; exact fV_up f_g2 (by decide)
        clear e
        exact f_g3
    · exact f_g0
theorem fn191_vq {x : List Int} {g0 : rHp} : fV g0 (fn191 x g0).2.2 := by
  have f_g0 : fV g0 g0 := fV_refl
  show oP (fun h => fV g0 h) (fn191 x g0)
  unfold fn191
  refine oP_dl ?_
  refine oP_dl ?_
  refine oP_dl ?_
  refine oP_dl ?_
  exact f_g0
theorem fn192_vq {x : List Int} {g0 : rHp} : fV g0 (fn192 x g0).2.2 := by
  have f_g0 : fV g0 g0 := fV_refl
  show oP (fun h => fV g0 h) (fn192 x g0)
  unfold fn192
  refine oP_dl ?_
  refine oP_ite (fun hb => ?_) (fun hb => ?_)
  · exact f_g0
  · refine oP_ite (fun hb => ?_) (fun hb => ?_)
    · exact f_g0
    · refine oP_dl ?_
      exact f_g0
theorem fn193_vq {x : List Int} {g0 : rHp} : fV g0 (fn193 x g0).2.2 := by
  have f_g0 : fV g0 g0 := fV_refl
  show oP (fun h => fV g0 h) (fn193 x g0)
  unfold fn193
  refine oP_dl ?_
  refine oP_dl ?_
  refine oP_dl ?_
  refine oP_dl ?_
  refine oP_ite (fun hb => ?_) (fun hb => ?_)
  · exact f_g0
  · refine oP_ite (fun hb => ?_) (fun hb => ?_)
    · refine oP_let fun g1 e => ?_
      have f_g1 : fV g0 g1 := by rw [e]; exact fV_up f_g0 (by decide)
      clear e
      refine oP_dl ?_
      refine oP_ite (fun hb => ?_) (fun hb => ?_)
      · refine oP_dl ?_
        refine oP_let fun g2 e => ?_
        have f_g2 : fV g0 g2 := by rw [e]; exact fV_up f_g1 (by decide)
        clear e
        refine oP_let fun g3 e => ?_
        have f_g3 : fV g0 g3 := by rw [e]; exact fV_up f_g2 (by decide)
        clear e
        exact f_g3
      · refine oP_let fun g2 e => ?_
        have f_g2 : fV g0 g2 := by rw [e]; exact fV_up f_g1 (by decide)
        clear e
        refine oP_let fun g3 e => ?_
        have f_g3 : fV g0 g3 := by rw [e]; exact fV_up f_g2 (by decide)
        clear e
        exact f_g3
    · exact f_g0
theorem fn195_vq {x : List Int} {g0 : rHp} : fV g0 (fn195 x g0).2.2 := by
  have f_g0 : fV g0 g0 := fV_refl
  show oP (fun h => fV g0 h) (fn195 x g0)
  unfold fn195
  refine oP_dl ?_
  refine oP_dl ?_
  refine oP_dl ?_
  refine oP_dl ?_
  exact f_g0
theorem fn196_vq {x : List Int} {g0 : rHp} : fV g0 (fn196 x g0).2.2 := by
  have f_g0 : fV g0 g0 := fV_refl
  show oP (fun h => fV g0 h) (fn196 x g0)
  unfold fn196
  refine oP_dl ?_
  refine oP_ite (fun hb => ?_) (fun hb => ?_)
  · exact f_g0
  · refine oP_ite (fun hb => ?_) (fun hb => ?_)
    · exact f_g0
    · refine oP_dl ?_
      exact f_g0
theorem fn197_vq {x : List Int} {g0 : rHp} : fV g0 (fn197 x g0).2.2 := by
  have f_g0 : fV g0 g0 := fV_refl
  show oP (fun h => fV g0 h) (fn197 x g0)
  unfold fn197
  refine oP_dl ?_
  refine oP_dl ?_
  refine oP_dl ?_
  refine oP_dl ?_
  refine oP_ite (fun hb => ?_) (fun hb => ?_)
  · exact f_g0
  · refine oP_ite (fun hb => ?_) (fun hb => ?_)
    · refine oP_let fun g1 e => ?_
      have f_g1 : fV g0 g1 := by rw [e]; exact fV_up f_g0 (by decide)
      clear e
      refine oP_dl ?_
      refine oP_ite (fun hb => ?_) (fun hb => ?_)
      · refine oP_dl ?_
        refine oP_let fun g2 e => ?_
        have f_g2 : fV g0 g2 := by rw [e]; exact fV_up f_g1 (by decide)
        clear e
        refine oP_let fun g3 e => ?_
        have f_g3 : fV g0 g3 := by rw [e]; exact fV_up f_g2 (by decide)
        clear e
        exact f_g3
      · refine oP_let fun g2 e => ?_
        have f_g2 : fV g0 g2 := by rw [e]; exact fV_up f_g1 (by decide)
        clear e
        refine oP_let fun g3 e => ?_
        have f_g3 : fV g0 g3 := by rw [e]; exact fV_up f_g2 (by decide)
        clear e
        exact f_g3
    · exact f_g0
theorem fn199_vq {x : List Int} {g0 : rHp} : fV g0 (fn199 x g0).2.2 := by
  have f_g0 : fV g0 g0 := fV_refl
  show oP (fun h => fV g0 h) (fn199 x g0)
  unfold fn199
  refine oP_dl ?_
  refine oP_dl ?_
  refine oP_dl ?_
  refine oP_dl ?_
  exact f_g0
theorem fn200_vq {x : List Int} {g0 : rHp} : fV g0 (fn200 x g0).2.2 := by
  have f_g0 : fV g0 g0 := fV_refl
  show oP (fun h => fV g0 h) (fn200 x g0)
  unfold fn200
  refine oP_dl ?_
  refine oP_ite (fun hb => ?_) (fun hb => ?_)
  · exact f_g0
  · refine oP_ite (fun hb => ?_) (fun hb => ?_)
    · exact f_g0
    · refine oP_dl ?_
      exact f_g0
theorem fn201_vq {x : List Int} {g0 : rHp} : fV g0 (fn201 x g0).2.2 := by
  have f_g0 : fV g0 g0 := fV_refl
  show oP (fun h => fV g0 h) (fn201 x g0)
  unfold fn201
  refine oP_dl ?_
  refine oP_dl ?_
  refine oP_dl ?_
  refine oP_dl ?_
  refine oP_ite (fun hb => ?_) (fun hb => ?_)
  · exact f_g0
  · refine oP_ite (fun hb => ?_) (fun hb => ?_)
    · refine oP_let fun g1 e => ?_
      have f_g1 : fV g0 g1 := by rw [e]; exact fV_up f_g0 (by decide)
      clear e
      refine oP_dl ?_
      refine oP_ite (fun hb => ?_) (fun hb => ?_)
      · refine oP_dl ?_
        refine oP_let fun g2 e => ?_
        have f_g2 : fV g0 g2 := by rw [e]; exact fV_up f_g1 (by decide)
        clear e
        refine oP_let fun g3 e => ?_
        have f_g3 : fV g0 g3 := by rw [e]; exact fV_up f_g2 (by decide)
        clear e
        exact f_g3
      · refine oP_let fun g2 e => ?_
        have f_g2 : fV g0 g2 := by rw [e]; exact fV_up f_g1 (by decide)
        clear e
        refine oP_let fun g3 e => ?_
        have f_g3 : fV g0 g3 := by rw [e]; exact fV_up f_g2 (by decide)
        clear e
        exact f_g3
    · exact f_g0
theorem fn203_vq {x : List Int} {g0 : rHp} : fV g0 (fn203 x g0).2.2 := by
  have f_g0 : fV g0 g0 := fV_refl
  refine zGoo_P (I := fun s => fV g0 s.2.2) fV_zero (fun s hs => ?_) ?_
  · unfold en203
    refine oS_ite (fun hb => ?_) (fun hb => ?_)
    · refine oS_let fun g1 e => ?_
      have f_g1 : fV g0 g1 := by rw [e]; exact hs
      clear e
      refine oS_dl ?_
      refine oS_dl ?_
      refine oS_dl ?_
      refine oS_ite (fun hb => ?_) (fun hb => ?_)
      · exact f_g1
      · refine oS_dl ?_
        refine oS_dl ?_
        refine oS_dl ?_
        exact f_g1
    · exact f_g0
  · unfold dn203
    refine oS_dl ?_
    exact f_g0
theorem fn204_vq {x : List Int} {g0 : rHp} : fV g0 (fn204 x g0).2.2 := by
  have f_g0 : fV g0 g0 := fV_refl
  show oP (fun h => fV g0 h) (fn204 x g0)
  unfold fn204
  refine oP_dl ?_
  refine oP_dl ?_
  refine oP_dl ?_
  refine oP_dl ?_
  refine oP_dl ?_
  refine oP_dl ?_
  refine oP_dl ?_
  exact f_g0
theorem fn205_vq {x : List Int} {g0 : rHp} : fV g0 (fn205 x g0).2.2 := by
  have f_g0 : fV g0 g0 := fV_refl
  refine zGoo_P (I := fun s => fV g0 s.2.2) fV_zero (fun s hs => ?_) ?_
  · unfold en205
    refine oS_ite (fun hb => ?_) (fun hb => ?_)
    · refine oS_let fun g1 e => ?_
      have f_g1 : fV g0 g1 := by rw [e]; exact hs
      clear e
      refine oS_dl ?_
      refine oS_dl ?_
      refine oS_ite (fun hb => ?_) (fun hb => ?_)
      · exact f_g1
      · refine oS_dl ?_
        refine oS_dl ?_
        refine oS_ite (fun hb => ?_) (fun hb => ?_)
        · exact f_g1
        · exact f_g1
    · exact f_g0
  · unfold dn205
    refine oS_dl ?_
    exact f_g0
theorem fn214_vq {x : List Int} {g0 : rHp} : fV g0 (fn214 x g0).2.2 := by
  have f_g0 : fV g0 g0 := fV_refl
  refine zGoo_P (I := fun s => fV g0 s.2.2) fV_zero (fun s hs => ?_) ?_
  · unfold en214
    refine oS_ite (fun hb => ?_) (fun hb => ?_)
    · refine oS_let fun g1 e => ?_
      have f_g1 : fV g0 g1 := by rw [e]; exact hs
      clear e
      refine oS_dl ?_
      refine oS_dl ?_
      refine oS_ite (fun hb => ?_) (fun hb => ?_)
      · exact f_g1
      · refine oS_dl ?_
        refine oS_dl ?_
        refine oS_dl ?_
        exact f_g1
    · exact f_g0
  · unfold dn214
    exact f_g0
theorem fn215_vq {x : List Int} {g0 : rHp} : fV g0 (fn215 x g0).2.2 := by
  have f_g0 : fV g0 g0 := fV_refl
  refine zGoo_P (I := fun s => fV g0 s.2.2) fV_zero (fun s hs => ?_) ?_
  · unfold en215
    refine oS_ite (fun hb => ?_) (fun hb => ?_)
    · refine oS_let fun g1 e => ?_
      have f_g1 : fV g0 g1 := by rw [e]; exact hs
      clear e
      refine oS_dl ?_
      refine oS_dl ?_
      refine oS_ite (fun hb => ?_) (fun hb => ?_)
      · exact f_g1
      · refine oS_dl ?_
        refine oS_dl ?_
        refine oS_ite (fun hb => ?_) (fun hb => ?_)
        · exact f_g1
        · exact f_g1
    · exact f_g0
  · unfold dn215
    refine oS_dl ?_
    exact f_g0
theorem fn217_vq {x : List Int} {g0 : rHp} : fV g0 (fn217 x g0).2.2 := by
  have f_g0 : fV g0 g0 := fV_refl
  show oP (fun h => fV g0 h) (fn217 x g0)
  unfold fn217
  refine oP_dl ?_
  refine oP_dl ?_
  refine oP_dl ?_
  refine oP_let fun g1 e => ?_
  have f_g1 : fV g0 g1 := by rw [e]; exact fV_up f_g0 (by decide)
  clear e
  refine oP_let fun g2 e => ?_
  have f_g2 : fV g0 g2 := by rw [e]; exact fV_up f_g1 (by decide)
  clear e
  exact f_g2
theorem fn224_vq {x : List Int} {g0 : rHp} : fV g0 (fn224 x g0).2.2 := by
  have f_g0 : fV g0 g0 := fV_refl
  show oP (fun h => fV g0 h) (fn224 x g0)
  unfold fn224
  refine oP_dl ?_
  refine oP_dl ?_
  refine oP_dl ?_
  refine oP_ite (fun hb => ?_) (fun hb => ?_)
  · refine oP_dl ?_
    exact f_g0
  · refine oP_dl ?_
    refine oP_dl ?_
    exact f_g0
theorem fn232_vq {x : List Int} {g0 : rHp} : fV g0 (fn232 x g0).2.2 := by
  have f_g0 : fV g0 g0 := fV_refl
  show oP (fun h => fV g0 h) (fn232 x g0)
  unfold fn232
  refine oP_dl ?_
  refine oP_dl ?_
  refine oP_dl ?_
  refine oP_dl ?_
  refine oP_let fun g1 e => ?_
  have f_g1 : fV g0 g1 := by rw [e]; exact fV_6 f_g0 (by decide)
  clear e
  refine oP_ite (fun hb => ?_) (fun hb => ?_)
  · refine oP_let fun g2 e => ?_
    have f_g2 : fV g0 g2 := by rw [e]; exact fV_up f_g1 (by decide)
    clear e
    exact f_g2
  · exact f_g1
theorem fn234_vq {x : List Int} {g0 : rHp} : fV g0 (fn234 x g0).2.2 := by
  have f_g0 : fV g0 g0 := fV_refl
  show oP (fun h => fV g0 h) (fn234 x g0)
  unfold fn234
  refine oP_dl ?_
  refine oP_dl ?_
  refine oP_dl ?_
  refine oP_dl ?_
  refine oP_ite (fun hb => ?_) (fun hb => ?_)
  · exact f_g0
  · exact f_g0
theorem fn198_vq {x : List Int} {g0 : rHp} : fV g0 (fn198 x g0).2.2 := by
  have f_g0 : fV g0 g0 := fV_refl
  show oP (fun h => fV g0 h) (fn198 x g0)
  unfold fn198
  refine oP_let fun p0 e_p0 => ?_
  refine oP_let fun g1 e => ?_
  have f_g1 : fV g0 g1 := by rw [e, e_p0]; exact fV_tr f_g0 fn98_vq
  clear e
  exact f_g1
theorem fn218_vq {x : List Int} {g0 : rHp} : fV g0 (fn218 x g0).2.2 := by
  have f_g0 : fV g0 g0 := fV_refl
  show oP (fun h => fV g0 h) (fn218 x g0)
  unfold fn218
  refine oP_dl ?_
  refine oP_dl ?_
  refine oP_let fun g1 e => ?_
  have f_g1 : fV g0 g1 := by rw [e]; exact fV_up f_g0 (by decide)
  clear e
  refine oP_let fun p1 e_p1 => ?_
  refine oP_let fun g2 e => ?_
  have f_g2 : fV g0 g2 := by rw [e, e_p1]; exact fV_tr f_g1 fn172_vq
  clear e
  refine oP_ite (fun hb => ?_) (fun hb => ?_)
  · refine oP_dl ?_
    refine oP_dl ?_
    refine oP_dl ?_
    refine oP_let fun g3 e => ?_
    have f_g3 : fV g0 g3 := by rw [e]; exact fV_up f_g2 (by decide)
    clear e
    exact f_g3
  · exact f_g2
theorem fn219_vq {x : List Int} {g0 : rHp} : fV g0 (fn219 x g0).2.2 := by
  have f_g0 : fV g0 g0 := fV_refl
  show oP (fun h => fV g0 h) (fn219 x g0)
  unfold fn219
  refine oP_dl ?_
  refine oP_dl ?_
  refine oP_let fun p0 e_p0 => ?_
  refine oP_let fun g1 e => ?_
  have f_g1 : fV g0 g1 := by rw [e, e_p0]; exact fV_tr f_g0 fn172_vq
  clear e
  refine oP_ite (fun hb => ?_) (fun hb => ?_)
  · refine oP_dl ?_
    refine oP_ite (fun hb => ?_) (fun hb => ?_)
    · refine oP_dl ?_
      refine oP_let fun g2 e => ?_
      have f_g2 : fV g0 g2 := by rw [e]; exact fV_up f_g1 (by decide)
      clear e
      refine oP_let fun g3 e => ?_
      have f_g3 : fV g0 g3 := by rw [e]; exact fV_up f_g2 (by decide)
      clear e
      exact f_g3
    · refine oP_dl ?_
      refine oP_dl ?_
      refine oP_let fun p1 e_p1 => ?_
      refine oP_let fun g2 e => ?_
      have f_g2 : fV g0 g2 := by rw [e, e_p1]; exact fV_tr f_g1 fn100_vq
      clear e
      refine oP_ite (fun hb => ?_) (fun hb => ?_)
      · refine oP_let fun g3 e => ?_
        have f_g3 : fV g0 g3 := by rw [e]; exact fV_up f_g2 (by decide)
        clear e
        refine oP_let fun g4 e => ?_
        have f_g4 : fV g0 g4 := by rw [e]; exact fV_up f_g3 (by decide)
        clear e
        exact f_g4
      · refine oP_let fun g3 e => ?_
        have f_g3 : fV g0 g3 := by rw [e]; exact fV_up f_g2 (by decide)
        clear e
        refine oP_let fun g4 e => ?_
        have f_g4 : fV g0 g4 := by rw [e]; exact fV_up f_g3 (by decide)
        clear e
        exact f_g4
  · exact f_g1
theorem fn220_vq {x : List Int} {g0 : rHp} : fV g0 (fn220 x g0).2.2 := by
  have f_g0 : fV g0 g0 := fV_refl
  show oP (fun h => fV g0 h) (fn220 x g0)
  unfold fn220
  refine oP_dl ?_
  refine oP_dl ?_
  refine oP_let fun p0 e_p0 => ?_
  refine oP_let fun g1 e => ?_
  have f_g1 : fV g0 g1 := by rw [e, e_p0]; exact fV_tr f_g0 fn172_vq
  clear e
  refine oP_ite (fun hb => ?_) (fun hb => ?_)
  · refine oP_dl ?_
    refine oP_ite (fun hb => ?_) (fun hb => ?_)
    · refine oP_dl ?_
      refine oP_let fun g2 e => ?_
      have f_g2 : fV g0 g2 := by rw [e]; exact fV_up f_g1 (by decide)
      clear e
      refine oP_let fun g3 e => ?_
      have f_g3 : fV g0 g3 := by rw [e]; exact fV_up f_g2 (by decide)
      clear e
      exact f_g3
    · refine oP_dl ?_
      refine oP_dl ?_
      refine oP_let fun p1 e_p1 => ?_
      refine oP_let fun g2 e => ?_
      have f_g2 : fV g0 g2 := by rw [e, e_p1]; exact fV_tr f_g1 fn101_vq
      clear e
      refine oP_ite (fun hb => ?_) (fun hb => ?_)
      · refine oP_let fun g3 e => ?_
        have f_g3 : fV g0 g3 := by rw [e]; exact fV_up f_g2 (by decide)
        clear e
        refine oP_let fun g4 e => ?_
        have f_g4 : fV g0 g4 := by rw [e]; exact fV_up f_g3 (by decide)
        clear e
        exact f_g4
      · refine oP_let fun g3 e => ?_
        have f_g3 : fV g0 g3 := by rw [e]; exact fV_up f_g2 (by decide)
        clear e
        refine oP_let fun g4 e => ?_
        have f_g4 : fV g0 g4 := by rw [e]; exact fV_up f_g3 (by decide)
        clear e
        exact f_g4
  · exact f_g1
theorem fn208_vq {x : List Int} {g0 : rHp} : fV g0 (fn208 x g0).2.2 := by
  have f_g0 : fV g0 g0 := fV_refl
  refine zGoo_P (I := fun s => fV g0 s.2.2) fV_zero (fun s hs => ?_) ?_
  · unfold en208
    refine oS_ite (fun hb => ?_) (fun hb => ?_)
    · refine oS_let fun g1 e => ?_
      have f_g1 : fV g0 g1 := by rw [e]; exact hs
      clear e
      refine oS_dl ?_
      refine oS_dl ?_
      refine oS_dl ?_
      refine oS_dl ?_
      refine oS_ite (fun hb => ?_) (fun hb => ?_)
      · exact f_g1
      · refine oS_dl ?_
        refine oS_ite (fun hb => ?_) (fun hb => ?_)
        · exact f_g1
        · exact f_g1
    · exact f_g0
  · unfold dn208
    refine oS_dl ?_
    refine oS_dl ?_
    refine oS_ite (fun hb => ?_) (fun hb => ?_)
    · exact f_g0
    · refine oS_let fun p0 e_p0 => ?_
      refine oS_let fun g1 e => ?_
      have f_g1 : fV g0 g1 := by rw [e, e_p0]; exact fV_tr f_g0 fn187_vq
      clear e
      refine oS_dl ?_
      exact f_g1
theorem fn209_vq {x : List Int} {g0 : rHp} : fV g0 (fn209 x g0).2.2 := by
  have f_g0 : fV g0 g0 := fV_refl
  show oP (fun h => fV g0 h) (fn209 x g0)
  unfold fn209
  refine oP_dl ?_
  refine oP_let fun p0 e_p0 => ?_
  refine oP_let fun g1 e => ?_
  have f_g1 : fV g0 g1 := by rw [e, e_p0]; exact fV_tr f_g0 fn188_vq
  clear e
  refine oP_dl ?_
  exact f_g1
theorem fn210_vq {x : List Int} {g0 : rHp} : fV g0 (fn210 x g0).2.2 := by
  have f_g0 : fV g0 g0 := fV_refl
  refine zGoo_P (I := fun s => fV g0 s.2.2) fV_zero (fun s hs => ?_) ?_
  · unfold en210
    refine oS_ite (fun hb => ?_) (fun hb => ?_)
    · refine oS_let fun g1 e => ?_
      have f_g1 : fV g0 g1 := by rw [e]; exact hs
      clear e
      refine oS_dl ?_
      refine oS_dl ?_
      refine oS_dl ?_
      refine oS_dl ?_
      refine oS_ite (fun hb => ?_) (fun hb => ?_)
      · exact f_g1
      · refine oS_ite (fun hb => ?_) (fun hb => ?_)
        · exact f_g1
        · refine oS_dl ?_
          refine oS_ite (fun hb => ?_) (fun hb => ?_)
          · refine oS_let fun p1 e_p1 => ?_
            refine oS_let fun g2 e => ?_
            have f_g2 : fV g0 g2 := by rw [e, e_p1]; exact fV_tr f_g1 fn192_vq
            clear e
            refine oS_dl ?_
            exact f_g2
          · refine oS_dl ?_
            exact f_g1
    · exact f_g0
  · unfold dn210
    refine oS_dl ?_
    refine oS_dl ?_
    exact f_g0
theorem fn207_vq {x : List Int} {g0 : rHp} : fV g0 (fn207 x g0).2.2 := by
  have f_g0 : fV g0 g0 := fV_refl
  refine zGoo_P (I := fun s => fV g0 s.2.2) fV_zero (fun s hs => ?_) ?_
  · unfold en207
    refine oS_ite (fun hb => ?_) (fun hb => ?_)
    · refine oS_let fun g1 e => ?_
      have f_g1 : fV g0 g1 := by rw [e]; exact hs
      clear e
      refine oS_dl ?_
      refine oS_dl ?_
      refine oS_dl ?_
      refine oS_dl ?_
      refine oS_dl ?_
      refine oS_ite (fun hb => ?_) (fun hb => ?_)
      · refine oS_let fun g2 e => ?_
        have f_g2 : fV g0 g2 := by rw [e]; exact fV_up f_g1 (by decide)
        clear e
        exact f_g2
      · refine oS_dl ?_
        refine oS_let fun g2 e => ?_
        have f_g2 : fV g0 g2 := by rw [e]; exact fV_up f_g1 (by decide)
        clear e
        refine oS_let fun p2 e_p2 => ?_
        refine oS_let fun g3 e => ?_
        have f_g3 : fV g0 g3 := by rw [e, e_p2]; exact fV_tr f_g2 fn204_vq
        clear e
        refine oS_dl ?_
        refine oS_let fun p3 e_p3 => ?_
        refine oS_let fun g4 e => ?_
        have f_g4 : fV g0 g4 := by rw [e, e_p3]; exact fV_tr f_g3 fn193_vq
        clear e
        exact f_g4
    · exact f_g0
  · unfold dn207
    refine oS_dl ?_
    refine oS_dl ?_
    refine oS_dl ?_
    refine oS_dl ?_
    refine oS_ite (fun hb => ?_) (fun hb => ?_)
    · refine oS_let fun g1 e => ?_
      have f_g1 : fV g0 g1 := by rw [e]; exact fV_up f_g0 (by decide)
      clear e
      refine oS_let fun g2 e => ?_
      have f_g2 : fV g0 g2 := by rw [e]; exact fV_up f_g1 (by decide)
      clear e
      refine oS_let fun g3 e => ?_
      have f_g3 : fV g0 g3 := by rw [e]; exact fV_up f_g2 (by decide)
      clear e
      refine oS_let fun g4 e => ?_
      have f_g4 : fV g0 g4 := by rw [e]; exact fV_up f_g3 (by decide)
      clear e
      refine oS_let fun p4 e_p4 => ?_
      refine oS_let fun g5 e => ?_
      have f_g5 : fV g0 g5 := by rw [e, e_p4]; exact fV_tr f_g4 fn189_vq
      clear e
      refine oS_let fun p5 e_p5 => ?_
      refine oS_let fun g6 e => ?_
      have f_g6 : fV g0 g6 := by rw [e, e_p5]; exact fV_tr f_g5 fn203_vq
      clear e
      refine oS_dl ?_
      refine oS_let fun p6 e_p6 => ?_
      refine oS_let fun g7 e => ?_
      have f_g7 : fV g0 g7 := by rw [e, e_p6]; exact fV_tr f_g6 fn197_vq
      clear e
      exact f_g7
    · exact f_g0
theorem fn206_vq {x : List Int} {g0 : rHp} : fV g0 (fn206 x g0).2.2 := by
  have f_g0 : fV g0 g0 := fV_refl
  refine zGoo_P (I := fun s => fV g0 s.2.2) fV_zero (fun s hs => ?_) ?_
  · unfold en206
    refine oS_ite (fun hb => ?_) (fun hb => ?_)
    · refine oS_let fun g1 e => ?_
      have f_g1 : fV g0 g1 := by rw [e]; exact hs
      clear e
      refine oS_dl ?_
      refine oS_dl ?_
      refine oS_dl ?_
      refine oS_ite (fun hb => ?_) (fun hb => ?_)
      · exact f_g1
      · refine oS_ite (fun hb => ?_) (fun hb => ?_)
        · exact f_g1
        · refine oS_dl ?_
          refine oS_ite (fun hb => ?_) (fun hb => ?_)
          · refine oS_let fun p1 e_p1 => ?_
            refine oS_let fun g2 e => ?_
            have f_g2 : fV g0 g2 := by rw [e, e_p1]; exact fV_tr f_g1 fn196_vq
            clear e
            refine oS_dl ?_
            exact f_g2
          · refine oS_let fun p1 e_p1 => ?_
            refine oS_let fun g2 e => ?_
            have f_g2 : fV g0 g2 := by rw [e, e_p1]; exact fV_tr f_g1 fn205_vq
            clear e
            refine oS_ite (fun hb => ?_) (fun hb => ?_)
            · exact f_g2
            · refine oS_let fun p2 e_p2 => ?_
              refine oS_let fun g3 e => ?_
              have f_g3 : fV g0 g3 := by rw [e, e_p2]; exact fV_tr f_g2 fn196_vq
              clear e
              refine oS_dl ?_
              exact f_g3
    · exact f_g0
  · unfold dn206
    refine oS_dl ?_
    refine oS_let fun p0 e_p0 => ?_
    refine oS_let fun g1 e => ?_
    have f_g1 : fV g0 g1 := by rw [e, e_p0]; exact fV_tr f_g0 fn203_vq
    clear e
    refine oS_dl ?_
    refine oS_let fun p1 e_p1 => ?_
    refine oS_let fun g2 e => ?_
    have f_g2 : fV g0 g2 := by rw [e, e_p1]; exact fV_tr f_g1 fn195_vq
    clear e
    refine oS_dl ?_
    exact f_g2
theorem fn216_vq {x : List Int} {g0 : rHp} : fV g0 (fn216 x g0).2.2 := by
  have f_g0 : fV g0 g0 := fV_refl
  refine zGoo_P (I := fun s => fV g0 s.2.2) fV_zero (fun s hs => ?_) ?_
  · unfold en216
    refine oS_ite (fun hb => ?_) (fun hb => ?_)
    · refine oS_let fun g1 e => ?_
      have f_g1 : fV g0 g1 := by rw [e]; exact hs
      clear e
      refine oS_dl ?_
      refine oS_dl ?_
      refine oS_dl ?_
      refine oS_dl ?_
      refine oS_ite (fun hb => ?_) (fun hb => ?_)
      · refine oS_ite (fun hb => ?_) (fun hb => ?_)
        · refine oS_let fun g2 e => ?_
          have f_g2 : fV g0 g2 := by rw [e]; exact fV_cp f_g1 (by decide)
          clear e
          refine oS_let fun g3 e => ?_
          have f_g3 : fV g0 g3 := by rw [e]; exact fV_up f_g2 (by decide)
          clear e
          refine oS_let fun g4 e => ?_
          have f_g4 : fV g0 g4 := by rw [e]; exact fV_up f_g3 (by decide)
          clear e
          refine oS_let fun p4 e_p4 => ?_
          refine oS_let fun g5 e => ?_
          have f_g5 : fV g0 g5 := by rw [e, e_p4]; exact fV_tr f_g4 fn201_vq
          clear e
          refine oS_let fun g6 e => ?_
          have f_g6 : fV g0 g6 := by rw [e]; exact fV_up f_g5 (by decide)
          clear e
          exact f_g6
        · exact f_g1
      · refine oS_ite (fun hb => ?_) (fun hb => ?_)
        · refine oS_ite (fun hb => ?_) (fun hb => ?_)
          · refine oS_let fun g2 e => ?_
            have f_g2 : fV g0 g2 := by rw [e]; exact fV_cp f_g1 (by decide)
            clear e
            refine oS_let fun g3 e => ?_
            have f_g3 : fV g0 g3 := by rw [e]; exact fV_up f_g2 (by decide)
            clear e
            refine oS_let fun g4 e => ?_
            have f_g4 : fV g0 g4 := by rw [e]; exact fV_up f_g3 (by decide)
            clear e
            refine oS_let fun p4 e_p4 => ?_
            refine oS_let fun g5 e => ?_
            have f_g5 : fV g0 g5 := by rw [e, e_p4]; exact fV_tr f_g4 fn201_vq
            clear e
            refine oS_let fun g6 e => ?_
            have f_g6 : fV g0 g6 := by rw [e]; exact fV_up f_g5 (by decide)
            clear e
            exact f_g6
          · exact f_g1
        · refine oS_let fun p1 e_p1 => ?_
          refine oS_let fun g2 e => ?_
          have f_g2 : fV g0 g2 := by rw [e, e_p1]; exact fV_tr f_g1 fn215_vq
          clear e
          refine oS_ite (fun hb => ?_) (fun hb => ?_)
          · exact f_g2
          · refine oS_let fun p2 e_p2 => ?_
            refine oS_let fun g3 e => ?_
            have f_g3 : fV g0 g3 := by rw [e, e_p2]; exact fV_tr f_g2 fn200_vq
            clear e
            refine oS_dl ?_
            exact f_g3
    · exact f_g0
  · unfold dn216
    refine oS_let fun p0 e_p0 => ?_
    refine oS_let fun g1 e => ?_
    have f_g1 : fV g0 g1 := by rw [e, e_p0]; exact fV_tr f_g0 fn214_vq
    clear e
    refine oS_dl ?_
    refine oS_let fun p1 e_p1 => ?_
    refine oS_let fun g2 e => ?_
    have f_g2 : fV g0 g2 := by rw [e, e_p1]; exact fV_tr f_g1 fn199_vq
    clear e
    refine oS_dl ?_
    exact f_g2
theorem fn225_vq {x : List Int} {g0 : rHp} : fV g0 (fn225 x g0).2.2 := by
  have f_g0 : fV g0 g0 := fV_refl
  refine zGoo_P (I := fun s => fV g0 s.2.2) fV_zero (fun s hs => ?_) ?_
  · unfold en225
    refine oS_ite (fun hb => ?_) (fun hb => ?_)
    · refine oS_let fun g1 e => ?_
      have f_g1 : fV g0 g1 := by rw [e]; exact hs
      clear e
      refine oS_dl ?_
      refine oS_dl ?_
      refine oS_dl ?_
      refine oS_dl ?_
      refine oS_ite (fun hb => ?_) (fun hb => ?_)
      · exact f_g1
      · refine oS_dl ?_
        refine oS_dl ?_
        refine oS_ite (fun hb => ?_) (fun hb => ?_)
        · refine oS_ite (fun hb => ?_) (fun hb => ?_)
          · exact f_g1
          · refine oS_let fun p1 e_p1 => ?_
            refine oS_let fun g2 e => ?_
            have f_g2 : fV g0 g2 := by rw [e, e_p1]; exact fV_tr f_g1 fn224_vq
            clear e
            refine oS_dl ?_
            refine oS_ite (fun hb => ?_) (fun hb => ?_)
            · exact f_g2
            · exact f_g2
        · refine oS_dl ?_
          refine oS_let fun g2 e => ?_
          have f_g2 : fV g0 g2 := by rw [e]; exact fV_up f_g1 (by decide)
          clear e
          exact f_g2
    · exact f_g0
  · unfold dn225
    refine oS_dl ?_
    refine oS_dl ?_
    refine oS_dl ?_
    refine oS_dl ?_
    refine oS_ite (fun hb => ?_) (fun hb => ?_)
    · exact f_g0
    · exact f_g0
theorem fn229_vq {x : List Int} {g0 : rHp} : fV g0 (fn229 x g0).2.2 := by
  have f_g0 : fV g0 g0 := fV_refl
  show oP (fun h => fV g0 h) (fn229 x g0)
  unfold fn229
  refine oP_dl ?_
  refine oP_dl ?_
  refine oP_let fun p0 e_p0 => ?_
  refine oP_let fun g1 e => ?_
  have f_g1 : fV g0 g1 := by rw [e, e_p0]; exact fV_tr f_g0 fn224_vq
  clear e
  refine oP_dl ?_
  refine oP_let fun p1 e_p1 => ?_
  refine oP_let fun g2 e => ?_
  have f_g2 : fV g0 g2 := by rw [e, e_p1]; exact fV_tr f_g1 fn224_vq
  clear e
  refine oP_dl ?_
  refine oP_ite (fun hb => ?_) (fun hb => ?_)
  · refine oP_ite (fun hb => ?_) (fun hb => ?_)
    · exact f_g2
    · exact f_g2
  · refine oP_ite (fun hb => ?_) (fun hb => ?_)
    · exact f_g2
    · exact f_g2
theorem fn230_vq {x : List Int} {g0 : rHp} : fV g0 (fn230 x g0).2.2 := by
  have f_g0 : fV g0 g0 := fV_refl
  show oP (fun h => fV g0 h) (fn230 x g0)
  unfold fn230
  refine oP_dl ?_
  refine oP_let fun p0 e_p0 => ?_
  refine oP_let fun g1 e => ?_
  have f_g1 : fV g0 g1 := by rw [e, e_p0]; exact fV_tr f_g0 fn224_vq
  clear e
  refine oP_dl ?_
  refine oP_let fun p1 e_p1 => ?_
  refine oP_let fun g2 e => ?_
  have f_g2 : fV g0 g2 := by rw [e, e_p1]; exact fV_tr f_g1 fn224_vq
  clear e
  refine oP_dl ?_
  refine oP_let fun p2 e_p2 => ?_
  refine oP_let fun g3 e => ?_
  have f_g3 : fV g0 g3 := by rw [e, e_p2]; exact fV_tr f_g2 fn172_vq
  clear e
  refine oP_ite (fun hb => ?_) (fun hb => ?_)
  · refine oP_let fun p3 e_p3 => ?_
    refine oP_let fun g4 e => ?_
    have f_g4 : fV g0 g4 := by rw [e, e_p3]; exact fV_tr f_g3 fn172_vq
    clear e
    refine oP_ite (fun hb => ?_) (fun hb => ?_)
    · refine oP_ite (fun hb => ?_) (fun hb => ?_)
      · exact f_g4
      · exact f_g4
    · exact f_g4
  · exact f_g3
theorem fn231_vq {x : List Int} {g0 : rHp} : fV g0 (fn231 x g0).2.2 := by
  have f_g0 : fV g0 g0 := fV_refl
  show oP (fun h => fV g0 h) (fn231 x g0)
  unfold fn231
  refine oP_dl ?_
  refine oP_dl ?_
  refine oP_dl ?_
  refine oP_let fun p0 e_p0 => ?_
  refine oP_let fun g1 e => ?_
  have f_g1 : fV g0 g1 := by rw [e, e_p0]; exact fV_tr f_g0 fn224_vq
  clear e
  refine oP_dl ?_
  refine oP_let fun p1 e_p1 => ?_
  refine oP_let fun g2 e => ?_
  have f_g2 : fV g0 g2 := by rw [e, e_p1]; exact fV_tr f_g1 fn224_vq
  clear e
  refine oP_dl ?_
  refine oP_let fun p2 e_p2 => ?_
  refine oP_let fun g3 e => ?_
  have f_g3 : fV g0 g3 := by rw [e, e_p2]; exact fV_tr f_g2 fn172_vq
  clear e
  refine oP_ite (fun hb => ?_) (fun hb => ?_)
  · refine oP_let fun p3 e_p3 => ?_
    refine oP_let fun g4 e => ?_
    have f_g4 : fV g0 g4 := by rw [e, e_p3]; exact fV_tr f_g3 fn172_vq
    clear e
    refine oP_ite (fun hb => ?_) (fun hb => ?_)
    · refine oP_ite (fun hb => ?_) (fun hb => ?_)
      · refine oP_ite (fun hb => ?_) (fun hb => ?_)
        · refine oP_dl ?_
          refine oP_let fun g5 e => ?_
          have f_g5 : fV g0 g5 := by rw [e]; exact fV_up f_g4 (by decide)
          clear e
          refine oP_ite (fun hb => ?_) (fun hb => ?_)
          · exact f_g5
          · refine oP_ite (fun hb => ?_) (fun hb => ?_)
            · exact f_g5
            · exact f_g5
        · refine oP_dl ?_
          refine oP_let fun g5 e => ?_
          have f_g5 : fV g0 g5 := by rw [e]; exact fV_up f_g4 (by decide)
          clear e
          refine oP_ite (fun hb => ?_) (fun hb => ?_)
          · exact f_g5
          · refine oP_ite (fun hb => ?_) (fun hb => ?_)
            · exact f_g5
            · exact f_g5
      · refine oP_dl ?_
        refine oP_let fun g5 e => ?_
        have f_g5 : fV g0 g5 := by rw [e]; exact fV_up f_g4 (by decide)
        clear e
        refine oP_ite (fun hb => ?_) (fun hb => ?_)
        · exact f_g5
        · refine oP_ite (fun hb => ?_) (fun hb => ?_)
          · exact f_g5
          · exact f_g5
    · exact f_g4
  · exact f_g3
theorem fn213_vq {x : List Int} {g0 : rHp} : fV g0 (fn213 x g0).2.2 := by
  have f_g0 : fV g0 g0 := fV_refl
  show oP (fun h => fV g0 h) (fn213 x g0)
  unfold fn213
  refine oP_let fun g1 e => ?_
  have f_g1 : fV g0 g1 := by rw [e]; exact fV_up f_g0 (by decide)
  clear e
  refine oP_let fun p1 e_p1 => ?_
  refine oP_let fun g2 e => ?_
  have f_g2 : fV g0 g2 := by rw [e, e_p1]; exact fV_tr f_g1 fn198_vq
  clear e
  exact f_g2
theorem fn211_vq {x : List Int} {g0 : rHp} : fV g0 (fn211 x g0).2.2 := by
  have f_g0 : fV g0 g0 := fV_refl
  show oP (fun h => fV g0 h) (fn211 x g0)
  unfold fn211
  refine oP_dl ?_
  refine oP_dl ?_
  refine oP_dl ?_
  refine oP_let fun p0 e_p0 => ?_
  refine oP_let fun g1 e => ?_
  have f_g1 : fV g0 g1 := by rw [e, e_p0]; exact fV_tr f_g0 fn204_vq
  clear e
  refine oP_dl ?_
  refine oP_let fun p1 e_p1 => ?_
  refine oP_let fun g2 e => ?_
  have f_g2 : fV g0 g2 := by rw [e, e_p1]; exact fV_tr f_g1 fn191_vq
  clear e
  refine oP_dl ?_
  refine oP_let fun p2 e_p2 => ?_
  refine oP_let fun g3 e => ?_
  have f_g3 : fV g0 g3 := by rw [e, e_p2]; exact fV_tr f_g2 fn210_vq
  clear e
  refine oP_dl ?_
  exact f_g3
theorem fn212_vq {x : List Int} {g0 : rHp} : fV g0 (fn212 x g0).2.2 := by
  have f_g0 : fV g0 g0 := fV_refl
  show oP (fun h => fV g0 h) (fn212 x g0)
  unfold fn212
  refine oP_dl ?_
  refine oP_dl ?_
  refine oP_let fun p0 e_p0 => ?_
  refine oP_let fun g1 e => ?_
  have f_g1 : fV g0 g1 := by rw [e, e_p0]; exact fV_tr f_g0 fn192_vq
  clear e
  refine oP_dl ?_
  refine oP_let fun p1 e_p1 => ?_
  refine oP_let fun g2 e => ?_
  have f_g2 : fV g0 g2 := by rw [e, e_p1]; exact fV_tr f_g1 fn210_vq
  clear e
  refine oP_dl ?_
  exact f_g2
theorem fn233_vq {x : List Int} {g0 : rHp} : fV g0 (fn233 x g0).2.2 := by
  have f_g0 : fV g0 g0 := fV_refl
  show oP (fun h => fV g0 h) (fn233 x g0)
  unfold fn233
  refine oP_dl ?_
  refine oP_dl ?_
  refine oP_dl ?_
  refine oP_let fun p0 e_p0 => ?_
  refine oP_let fun g1 e => ?_
  have f_g1 : fV g0 g1 := by rw [e, e_p0]; exact fV_tr f_g0 fn206_vq
  clear e
  refine oP_dl ?_
  refine oP_ite (fun hb => ?_) (fun hb => ?_)
  · refine oP_let fun p1 e_p1 => ?_
    refine oP_let fun g2 e => ?_
    have f_g2 : fV g0 g2 := by rw [e, e_p1]; exact fV_tr f_g1 fn207_vq
    clear e
    refine oP_ite (fun hb => ?_) (fun hb => ?_)
    · exact f_g2
    · exact f_g2
  · exact f_g1
theorem fn243_vq {x : List Int} {g0 : rHp} : fV g0 (fn243 x g0).2.2 := by
  have f_g0 : fV g0 g0 := fV_refl
  show oP (fun h => fV g0 h) (fn243 x g0)
  unfold fn243
  refine oP_dl ?_
  refine oP_dl ?_
  refine oP_dl ?_
  refine oP_let fun p0 e_p0 => ?_
  refine oP_let fun g1 e => ?_
  have f_g1 : fV g0 g1 := by rw [e, e_p0]; exact fV_tr f_g0 fn216_vq
  clear e
  refine oP_dl ?_
  refine oP_ite (fun hb => ?_) (fun hb => ?_)
  · refine oP_ite (fun hb => ?_) (fun hb => ?_)
    · refine oP_dl ?_
      refine oP_ite (fun hb => ?_) (fun hb => ?_)
      · refine oP_ite (fun hb => ?_) (fun hb => ?_)
        · refine oP_let fun p1 e_p1 => ?_
          refine oP_let fun g2 e => ?_
          have f_g2 : fV g0 g2 := by rw [e, e_p1]; exact fV_tr f_g1 fn220_vq
          clear e
          exact f_g2
        · refine oP_let fun p1 e_p1 => ?_
          refine oP_let fun g2 e => ?_
          have f_g2 : fV g0 g2 := by rw [e, e_p1]; exact fV_tr f_g1 fn219_vq
          clear e
          exact f_g2
      · refine oP_let fun p1 e_p1 => ?_
        refine oP_let fun g2 e => ?_
        have f_g2 : fV g0 g2 := by rw [e, e_p1]; exact fV_tr f_g1 fn218_vq
        clear e
        exact f_g2
    · refine oP_let fun p1 e_p1 => ?_
      refine oP_let fun g2 e => ?_
      have f_g2 : fV g0 g2 := by rw [e, e_p1]; exact fV_tr f_g1 fn217_vq
      clear e
      exact f_g2
  · exact f_g1
theorem fn226_vq {x : List Int} {g0 : rHp} : fV g0 (fn226 x g0).2.2 := by
  have f_g0 : fV g0 g0 := fV_refl
  show oP (fun h => fV g0 h) (fn226 x g0)
  unfold fn226
  refine oP_dl ?_
  refine oP_dl ?_
  refine oP_dl ?_
  refine oP_dl ?_
  refine oP_ite (fun hb => ?_) (fun hb => ?_)
  · refine oP_let fun p0 e_p0 => ?_
    refine oP_let fun g1 e => ?_
    have f_g1 : fV g0 g1 := by rw [e, e_p0]; exact fV_tr f_g0 fn224_vq
    clear e
    refine oP_dl ?_
    refine oP_let fun p1 e_p1 => ?_
    refine oP_let fun g2 e => ?_
    have f_g2 : fV g0 g2 := by rw [e, e_p1]; exact fV_tr f_g1 fn211_vq
    clear e
    refine oP_dl ?_
    exact f_g2
  · refine oP_let fun p0 e_p0 => ?_
    refine oP_let fun g1 e => ?_
    have f_g1 : fV g0 g1 := by rw [e, e_p0]; exact fV_tr f_g0 fn208_vq
    clear e
    refine oP_dl ?_
    exact f_g1
theorem fn227_vq {x : List Int} {g0 : rHp} : fV g0 (fn227 x g0).2.2 := by
  have f_g0 : fV g0 g0 := fV_refl
  show oP (fun h => fV g0 h) (fn227 x g0)
  unfold fn227
  refine oP_dl ?_
  refine oP_dl ?_
  refine oP_dl ?_
  refine oP_ite (fun hb => ?_) (fun hb => ?_)
  · refine oP_let fun p0 e_p0 => ?_
    refine oP_let fun g1 e => ?_
    have f_g1 : fV g0 g1 := by rw [e, e_p0]; exact fV_tr f_g0 fn212_vq
    clear e
    refine oP_dl ?_
    exact f_g1
  · refine oP_let fun p0 e_p0 => ?_
    refine oP_let fun g1 e => ?_
    have f_g1 : fV g0 g1 := by rw [e, e_p0]; exact fV_tr f_g0 fn209_vq
    clear e
    refine oP_dl ?_
    exact f_g1
theorem fn237_vq {x : List Int} {g0 : rHp} : fV g0 (fn237 x g0).2.2 := by
  have f_g0 : fV g0 g0 := fV_refl
  refine zGoo_P (I := fun s => fV g0 s.2.2) fV_zero (fun s hs => ?_) ?_
  · unfold en237
    refine oS_ite (fun hb => ?_) (fun hb => ?_)
    · refine oS_let fun g1 e => ?_
      have f_g1 : fV g0 g1 := by rw [e]; exact hs
      clear e
      refine oS_dl ?_
      refine oS_dl ?_
      refine oS_dl ?_
      refine oS_dl ?_
      refine oS_dl ?_
      refine oS_dl ?_
      refine oS_ite (fun hb => ?_) (fun hb => ?_)
      · exact f_g1
      · refine oS_dl ?_
        refine oS_ite (fun hb => ?_) (fun hb => ?_)
        · exact f_g1
        · refine oS_let fun g2 e => ?_
          have f_g2 : fV g0 g2 := by rw [e]; exact fV_cp f_g1 (by decide)
          clear e
          refine oS_dl ?_
          refine oS_let fun g3 e => ?_
          have f_g3 : fV g0 g3 := by rw [e]; exact fV_up f_g2 (by decide)
          clear e
          refine oS_let fun p3 e_p3 => ?_
          refine oS_let fun g4 e => ?_
          have f_g4 : fV g0 g4 := by rw [e, e_p3]; exact fV_tr f_g3 fn233_vq
          clear e
          refine oS_ite (fun hb => ?_) (fun hb => ?_)
          · exact f_g4
          · exact f_g4
    · exact f_g0
  · unfold dn237
    refine oS_dl ?_
    refine oS_dl ?_
    exact f_g0
theorem fn244_vq {x : List Int} {g0 : rHp} : fV g0 (fn244 x g0).2.2 := by
  have f_g0 : fV g0 g0 := fV_refl
  refine zGoo_P (I := fun s => fV g0 s.2.2) fV_zero (fun s hs => ?_) ?_
  · unfold en244
    refine oS_ite (fun hb => ?_) (fun hb => ?_)
    · refine oS_let fun g1 e => ?_
      have f_g1 : fV g0 g1 := by rw [e]; exact hs
      clear e
      refine oS_dl ?_
      refine oS_dl ?_
      refine oS_dl ?_
      refine oS_dl ?_
      refine oS_dl ?_
      refine oS_dl ?_
      refine oS_dl ?_
      refine oS_dl ?_
      refine oS_dl ?_
      refine oS_ite (fun hb => ?_) (fun hb => ?_)
      · refine oS_ite (fun hb => ?_) (fun hb => ?_)
        · refine oS_let fun p1 e_p1 => ?_
          refine oS_let fun g2 e => ?_
          have f_g2 : fV g0 g2 := by rw [e, e_p1]; exact fV_tr f_g1 fn233_vq
          clear e
          refine oS_ite (fun hb => ?_) (fun hb => ?_)
          · refine oS_ite (fun hb => ?_) (fun hb => ?_)
            · refine oS_let fun g3 e => ?_
              have f_g3 : fV g0 g3 := by rw [e]; exact fV_up f_g2 (by decide)
              clear e
              refine oS_let fun g4 e => ?_
              have f_g4 : fV g0 g4 := by rw [e]; exact fV_cp f_g3 (by decide)
              clear e
              exact f_g4
            · exact f_g2
          · exact f_g2
        · refine oS_let fun p1 e_p1 => ?_
          refine oS_let fun g2 e => ?_
          have f_g2 : fV g0 g2 := by rw [e, e_p1]; exact fV_tr f_g1 fn243_vq
          clear e
          refine oS_ite (fun hb => ?_) (fun hb => ?_)
          · exact f_g2
          · exact f_g2
      · refine oS_ite (fun hb => ?_) (fun hb => ?_)
        · refine oS_let fun g2 e => ?_
          have f_g2 : fV g0 g2 := by rw [e]; exact fV_up f_g1 (by decide)
          clear e
          exact f_g2
        · refine oS_let fun p1 e_p1 => ?_
          refine oS_let fun g2 e => ?_
          have f_g2 : fV g0 g2 := by rw [e, e_p1]; exact fV_tr f_g1 fn224_vq
          clear e
          refine oS_dl ?_
          refine oS_let fun g3 e => ?_
          have f_g3 : fV g0 g3 := by rw [e]; exact fV_up f_g2 (by decide)
          clear e
          exact f_g3
    · exact f_g0
  · unfold dn244
    refine oS_dl ?_
    refine oS_dl ?_
    refine oS_ite (fun hb => ?_) (fun hb => ?_)
    · exact f_g0
    · refine oS_let fun p0 e_p0 => ?_
      refine oS_let fun g1 e => ?_
      have f_g1 : fV g0 g1 := by rw [e, e_p0]; exact fun z => ⟨fn242_40, fun w => absurd w hb⟩
      clear e
      exact f_g1
theorem fn228_vq {x : List Int} {g0 : rHp} : fV g0 (fn228 x g0).2.2 := by
  have f_g0 : fV g0 g0 := fV_refl
  refine zGoo_P (I := fun s => fV g0 s.2.2) fV_zero (fun s hs => ?_) ?_
  · unfold en228
    refine oS_ite (fun hb => ?_) (fun hb => ?_)
    · refine oS_let fun g1 e => ?_
      have f_g1 : fV g0 g1 := by rw [e]; exact hs
      clear e
      refine oS_dl ?_
      refine oS_dl ?_
      refine oS_dl ?_
      refine oS_dl ?_
      refine oS_ite (fun hb => ?_) (fun hb => ?_)
      · exact f_g1
      · refine oS_ite (fun hb => ?_) (fun hb => ?_)
        · exact f_g1
        · refine oS_ite (fun hb => ?_) (fun hb => ?_)
          · exact f_g1
          · refine oS_let fun p1 e_p1 => ?_
            refine oS_let fun g2 e => ?_
            have f_g2 : fV g0 g2 := by rw [e, e_p1]; exact fV_tr f_g1 fn225_vq
            clear e
            refine oS_ite (fun hb => ?_) (fun hb => ?_)
            · exact f_g2
            · refine oS_let fun p2 e_p2 => ?_
              refine oS_let fun g3 e => ?_
              have f_g3 : fV g0 g3 := by rw [e, e_p2]; exact fV_tr f_g2 fn227_vq
              clear e
              refine oS_dl ?_
              exact f_g3
    · exact f_g0
  · unfold dn228
    refine oS_dl ?_
    refine oS_let fun p0 e_p0 => ?_
    refine oS_let fun g1 e => ?_
    have f_g1 : fV g0 g1 := by rw [e, e_p0]; exact fV_tr f_g0 fn226_vq
    clear e
    refine oS_dl ?_
    exact f_g1
theorem fn245_vq {x : List Int} {g0 : rHp} : fV g0 (fn245 x g0).2.2 := by
  have f_g0 : fV g0 g0 := fV_refl
  show oP (fun h => fV g0 h) (fn245 x g0)
  unfold fn245
  refine oP_let fun p0 e_p0 => ?_
  refine oP_let fun g1 e => ?_
  have f_g1 : fV g0 g1 := by rw [e, e_p0]; exact fV_tr f_g0 fn244_vq
  clear e
  refine oP_ite (fun hb => ?_) (fun hb => ?_)
  · exact f_g1
  · exact f_g1
theorem fn246_vq {x : List Int} {g0 : rHp} : fV g0 (fn246 x g0).2.2 := by
  have f_g0 : fV g0 g0 := fV_refl
  refine zGoo_P (I := fun s => fV g0 s.2.2) fV_zero (fun s hs => ?_) ?_
  · unfold en246
    refine oS_ite (fun hb => ?_) (fun hb => ?_)
    · refine oS_let fun g1 e => ?_
      have f_g1 : fV g0 g1 := by rw [e]; exact hs
      clear e
      refine oS_dl ?_
      refine oS_dl ?_
      refine oS_dl ?_
      refine oS_dl ?_
      refine oS_dl ?_
      refine oS_dl ?_
      refine oS_dl ?_
      refine oS_dl ?_
      refine oS_ite (fun hb => ?_) (fun hb => ?_)
      · exact f_g1
      · refine oS_ite (fun hb => ?_) (fun hb => ?_)
        · exact f_g1
        · refine oS_ite (fun hb => ?_) (fun hb => ?_)
          · exact f_g1
          · refine oS_ite (fun hb => ?_) (fun hb => ?_)
            · refine oS_let fun p1 e_p1 => ?_
              refine oS_let fun g2 e => ?_
              have f_g2 : fV g0 g2 := by rw [e, e_p1]; exact fV_tr f_g1 fn227_vq
              clear e
              refine oS_dl ?_
              exact f_g2
            · refine oS_let fun p1 e_p1 => ?_
              refine oS_let fun g2 e => ?_
              have f_g2 : fV g0 g2 := by rw [e, e_p1]; exact fV_tr f_g1 fn225_vq
              clear e
              refine oS_ite (fun hb => ?_) (fun hb => ?_)
              · refine oS_let fun p2 e_p2 => ?_
                refine oS_let fun g3 e => ?_
                have f_g3 : fV g0 g3 := by rw [e, e_p2]; exact fV_tr f_g2 fn232_vq
                clear e
                refine oS_ite (fun hb => ?_) (fun hb => ?_)
                · refine oS_ite (fun hb => ?_) (fun hb => ?_)
                  · refine oS_let fun g4 e => ?_
                    have f_g4 : fV g0 g4 := by rw [e]; exact fV_6 f_g3 (by decide)
                    clear e
                    refine oS_let fun p4 e_p4 => ?_
                    refine oS_let fun g5 e => ?_
                    have f_g5 : fV g0 g5 := by rw [e, e_p4]; exact fV_tr f_g4 fn245_vq
                    clear e
                    refine oS_ite (fun hb => ?_) (fun hb => ?_)
                    · refine oS_let fun g6 e => ?_
                      have f_g6 : fV g0 g6 := by rw [e]; exact fV_6 f_g5 (by decide)
                      clear e
                      refine oS_let fun p6 e_p6 => ?_
                      refine oS_let fun g7 e => ?_
                      have f_g7 : fV g0 g7 := by rw [e, e_p6]; exact fV_tr f_g6 fn227_vq
                      clear e
                      refine oS_dl ?_
                      exact f_g7
                    · exact f_g5
                  · refine oS_dl ?_
                    refine oS_let fun g4 e => ?_
                    have f_g4 : fV g0 g4 := by rw [e]; exact fV_6 f_g3 (by decide)
                    clear e
                    refine oS_let fun p4 e_p4 => ?_
                    refine oS_let fun g5 e => ?_
                    have f_g5 : fV g0 g5 := by rw [e, e_p4]; exact fV_tr f_g4 fn245_vq
                    clear e
                    refine oS_ite (fun hb => ?_) (fun hb => ?_)
                    · refine oS_dl ?_
                      refine oS_let fun g6 e => ?_
                      have f_g6 : fV g0 g6 := by rw [e]; exact fV_6 f_g5 (by decide)
                      clear e
                      refine oS_let fun p6 e_p6 => ?_
                      refine oS_let fun g7 e => ?_
                      have f_g7 : fV g0 g7 := by rw [e, e_p6]; exact fV_tr f_g6 fn227_vq
                      clear e
                      refine oS_dl ?_
                      exact f_g7
                    · exact f_g5
                · exact f_g3
              · refine oS_let fun p2 e_p2 => ?_
                refine oS_let fun g3 e => ?_
                have f_g3 : fV g0 g3 := by rw [e, e_p2]; exact fV_tr f_g2 fn227_vq
                clear e
                refine oS_dl ?_
                exact f_g3
    · exact f_g0
  · unfold dn246
    refine oS_dl ?_
    refine oS_dl ?_
    refine oS_dl ?_
    refine oS_dl ?_
    refine oS_dl ?_
    refine oS_dl ?_
    refine oS_ite (fun hb => ?_) (fun hb => ?_)
    · refine oS_let fun p0 e_p0 => ?_
      refine oS_let fun g1 e => ?_
      have f_g1 : fV g0 g1 := by rw [e, e_p0]; exact fV_tr f_g0 fn226_vq
      clear e
      refine oS_dl ?_
      exact f_g1
    · refine oS_ite (fun hb => ?_) (fun hb => ?_)
      · refine oS_let fun p0 e_p0 => ?_
        refine oS_let fun g1 e => ?_
        have f_g1 : fV g0 g1 := by rw [e, e_p0]; exact fV_tr f_g0 fn226_vq
        clear e
        refine oS_dl ?_
        exact f_g1
      · refine oS_ite (fun hb => ?_) (fun hb => ?_)
        · refine oS_let fun p0 e_p0 => ?_
          refine oS_let fun g1 e => ?_
          have f_g1 : fV g0 g1 := by rw [e, e_p0]; exact fV_tr f_g0 fn226_vq
          clear e
          refine oS_dl ?_
          exact f_g1
        · refine oS_let fun p0 e_p0 => ?_
          refine oS_let fun g1 e => ?_
          have f_g1 : fV g0 g1 := by rw [e, e_p0]; exact fV_tr f_g0 fn226_vq
          clear e
          refine oS_dl ?_
          exact f_g1
theorem fn247_vq {x : List Int} {g0 : rHp} : fV g0 (fn247 x g0).2.2 := by
  have f_g0 : fV g0 g0 := fV_refl
  show oP (fun h => fV g0 h) (fn247 x g0)
  unfold fn247
  refine oP_dl ?_
  refine oP_dl ?_
  refine oP_dl ?_
  refine oP_ite (fun hb => ?_) (fun hb => ?_)
  · refine oP_let fun p0 e_p0 => ?_
    refine oP_let fun g1 e => ?_
    have f_g1 : fV g0 g1 := by rw [e, e_p0]; exact fV_tr f_g0 fn244_vq
    clear e
    refine oP_ite (fun hb => ?_) (fun hb => ?_)
    · exact f_g1
    · exact f_g1
  · refine oP_let fun p0 e_p0 => ?_
    refine oP_let fun g1 e => ?_
    have f_g1 : fV g0 g1 := by rw [e, e_p0]; exact fV_tr f_g0 fn132_vq
    clear e
    refine oP_ite (fun hb => ?_) (fun hb => ?_)
    · refine oP_ite (fun hb => ?_) (fun hb => ?_)
      · refine oP_ite (fun hb => ?_) (fun hb => ?_)
        · refine oP_let fun p1 e_p1 => ?_
          refine oP_let fun g2 e => ?_
          have f_g2 : fV g0 g2 := by rw [e, e_p1]; exact fV_tr f_g1 fn230_vq
          clear e
          refine oP_ite (fun hb => ?_) (fun hb => ?_)
          · refine oP_let fun p2 e_p2 => ?_
            refine oP_let fun g3 e => ?_
            have f_g3 : fV g0 g3 := by rw [e, e_p2]; exact fV_tr f_g2 fn245_vq
            clear e
            refine oP_ite (fun hb => ?_) (fun hb => ?_)
            · exact f_g3
            · exact f_g3
          · exact f_g2
        · refine oP_let fun p1 e_p1 => ?_
          refine oP_let fun g2 e => ?_
          have f_g2 : fV g0 g2 := by rw [e, e_p1]; exact fV_tr f_g1 fn228_vq
          clear e
          refine oP_ite (fun hb => ?_) (fun hb => ?_)
          · exact f_g2
          · refine oP_let fun p2 e_p2 => ?_
            refine oP_let fun g3 e => ?_
            have f_g3 : fV g0 g3 := by rw [e, e_p2]; exact fV_tr f_g2 fn245_vq
            clear e
            refine oP_ite (fun hb => ?_) (fun hb => ?_)
            · exact f_g3
            · exact f_g3
      · refine oP_ite (fun hb => ?_) (fun hb => ?_)
        · refine oP_let fun p1 e_p1 => ?_
          refine oP_let fun g2 e => ?_
          have f_g2 : fV g0 g2 := by rw [e, e_p1]; exact fV_tr f_g1 fn229_vq
          clear e
          refine oP_ite (fun hb => ?_) (fun hb => ?_)
          · refine oP_let fun p2 e_p2 => ?_
            refine oP_let fun g3 e => ?_
            have f_g3 : fV g0 g3 := by rw [e, e_p2]; exact fV_tr f_g2 fn245_vq
            clear e
            refine oP_ite (fun hb => ?_) (fun hb => ?_)
            · exact f_g3
            · exact f_g3
          · exact f_g2
        · refine oP_let fun p1 e_p1 => ?_
          refine oP_let fun g2 e => ?_
          have f_g2 : fV g0 g2 := by rw [e, e_p1]; exact fV_tr f_g1 fn231_vq
          clear e
          refine oP_ite (fun hb => ?_) (fun hb => ?_)
          · refine oP_let fun p2 e_p2 => ?_
            refine oP_let fun g3 e => ?_
            have f_g3 : fV g0 g3 := by rw [e, e_p2]; exact fV_tr f_g2 fn245_vq
            clear e
            refine oP_ite (fun hb => ?_) (fun hb => ?_)
            · exact f_g3
            · exact f_g3
          · exact f_g2
    · refine oP_let fun p1 e_p1 => ?_
      refine oP_let fun g2 e => ?_
      have f_g2 : fV g0 g2 := by rw [e, e_p1]; exact fV_tr f_g1 fn246_vq
      clear e
      refine oP_ite (fun hb => ?_) (fun hb => ?_)
      · exact f_g2
      · refine oP_ite (fun hb => ?_) (fun hb => ?_)
        · exact f_g2
        · exact f_g2
theorem fn248_vq {x : List Int} {g0 : rHp} : fV g0 (fn248 x g0).2.2 := by
  have f_g0 : fV g0 g0 := fV_refl
  refine zGoo_P (I := fun s => fV g0 s.2.2) fV_zero (fun s hs => ?_) ?_
  · unfold en248
    refine oS_ite (fun hb => ?_) (fun hb => ?_)
    · refine oS_let fun g1 e => ?_
      have f_g1 : fV g0 g1 := by rw [e]; exact hs
      clear e
      refine oS_dl ?_
      refine oS_dl ?_
      refine oS_dl ?_
      refine oS_dl ?_
      refine oS_dl ?_
      refine oS_dl ?_
      refine oS_dl ?_
      refine oS_dl ?_
      refine oS_ite (fun hb => ?_) (fun hb => ?_)
      · exact f_g1
      · refine oS_ite (fun hb => ?_) (fun hb => ?_)
        · exact f_g1
        · refine oS_ite (fun hb => ?_) (fun hb => ?_)
          · exact f_g1
          · refine oS_ite (fun hb => ?_) (fun hb => ?_)
            · refine oS_let fun p1 e_p1 => ?_
              refine oS_let fun g2 e => ?_
              have f_g2 : fV g0 g2 := by rw [e, e_p1]; exact fV_tr f_g1 fn227_vq
              clear e
              refine oS_dl ?_
              exact f_g2
            · refine oS_let fun p1 e_p1 => ?_
              refine oS_let fun g2 e => ?_
              have f_g2 : fV g0 g2 := by rw [e, e_p1]; exact fV_tr f_g1 fn225_vq
              clear e
              refine oS_ite (fun hb => ?_) (fun hb => ?_)
              · refine oS_let fun p2 e_p2 => ?_
                refine oS_let fun g3 e => ?_
                have f_g3 : fV g0 g3 := by rw [e, e_p2]; exact fV_tr f_g2 fn232_vq
                clear e
                refine oS_ite (fun hb => ?_) (fun hb => ?_)
                · refine oS_ite (fun hb => ?_) (fun hb => ?_)
                  · refine oS_let fun g4 e => ?_
                    have f_g4 : fV g0 g4 := by rw [e]; exact fV_6 f_g3 (by decide)
                    clear e
                    refine oS_let fun p4 e_p4 => ?_
                    refine oS_let fun g5 e => ?_
                    have f_g5 : fV g0 g5 := by rw [e, e_p4]; exact fV_tr f_g4 fn247_vq
                    clear e
                    refine oS_ite (fun hb => ?_) (fun hb => ?_)
                    · refine oS_dl ?_
                      refine oS_let fun g6 e => ?_
                      have f_g6 : fV g0 g6 := by rw [e]; exact fV_6 f_g5 (by decide)
                      clear e
                      refine oS_let fun p6 e_p6 => ?_
                      refine oS_let fun g7 e => ?_
                      have f_g7 : fV g0 g7 := by rw [e, e_p6]; exact fV_tr f_g6 fn227_vq
                      clear e
                      refine oS_dl ?_
                      exact f_g7
                    · refine oS_ite (fun hb => ?_) (fun hb => ?_)
                      · exact f_g5
                      · exact f_g5
                  · refine oS_dl ?_
                    refine oS_let fun g4 e => ?_
                    have f_g4 : fV g0 g4 := by rw [e]; exact fV_6 f_g3 (by decide)
                    clear e
                    refine oS_let fun p4 e_p4 => ?_
                    refine oS_let fun g5 e => ?_
                    have f_g5 : fV g0 g5 := by rw [e, e_p4]; exact fV_tr f_g4 fn247_vq
                    clear e
                    refine oS_ite (fun hb => ?_) (fun hb => ?_)
                    · refine oS_dl ?_
                      refine oS_dl ?_
                      refine oS_let fun g6 e => ?_
                      have f_g6 : fV g0 g6 := by rw [e]; exact fV_6 f_g5 (by decide)
                      clear e
                      refine oS_let fun p6 e_p6 => ?_
                      refine oS_let fun g7 e => ?_
                      have f_g7 : fV g0 g7 := by rw [e, e_p6]; exact fV_tr f_g6 fn227_vq
                      clear e
                      refine oS_dl ?_
                      exact f_g7
                    · refine oS_ite (fun hb => ?_) (fun hb => ?_)
                      · exact f_g5
                      · exact f_g5
                · exact f_g3
              · refine oS_let fun p2 e_p2 => ?_
                refine oS_let fun g3 e => ?_
                have f_g3 : fV g0 g3 := by rw [e, e_p2]; exact fV_tr f_g2 fn227_vq
                clear e
                refine oS_dl ?_
                exact f_g3
    · exact f_g0
  · unfold dn248
    refine oS_dl ?_
    refine oS_dl ?_
    refine oS_dl ?_
    refine oS_dl ?_
    refine oS_dl ?_
    refine oS_dl ?_
    refine oS_ite (fun hb => ?_) (fun hb => ?_)
    · refine oS_let fun p0 e_p0 => ?_
      refine oS_let fun g1 e => ?_
      have f_g1 : fV g0 g1 := by rw [e, e_p0]; exact fV_tr f_g0 fn226_vq
      clear e
      refine oS_dl ?_
      exact f_g1
    · refine oS_ite (fun hb => ?_) (fun hb => ?_)
      · refine oS_let fun p0 e_p0 => ?_
        refine oS_let fun g1 e => ?_
        have f_g1 : fV g0 g1 := by rw [e, e_p0]; exact fV_tr f_g0 fn226_vq
        clear e
        refine oS_dl ?_
        exact f_g1
      · refine oS_ite (fun hb => ?_) (fun hb => ?_)
        · refine oS_let fun p0 e_p0 => ?_
          refine oS_let fun g1 e => ?_
          have f_g1 : fV g0 g1 := by rw [e, e_p0]; exact fV_tr f_g0 fn226_vq
          clear e
          refine oS_dl ?_
          exact f_g1
        · refine oS_let fun p0 e_p0 => ?_
          refine oS_let fun g1 e => ?_
          have f_g1 : fV g0 g1 := by rw [e, e_p0]; exact fV_tr f_g0 fn226_vq
          clear e
          refine oS_dl ?_
          exact f_g1
theorem fn249_vq {x : List Int} {g0 : rHp} : fV g0 (fn249 x g0).2.2 := by
  have f_g0 : fV g0 g0 := fV_refl
  show oP (fun h => fV g0 h) (fn249 x g0)
  unfold fn249
  refine oP_dl ?_
  refine oP_dl ?_
  refine oP_dl ?_
  refine oP_ite (fun hb => ?_) (fun hb => ?_)
  · refine oP_let fun p0 e_p0 => ?_
    refine oP_let fun g1 e => ?_
    have f_g1 : fV g0 g1 := by rw [e, e_p0]; exact fV_tr f_g0 fn244_vq
    clear e
    refine oP_ite (fun hb => ?_) (fun hb => ?_)
    · exact f_g1
    · exact f_g1
  · refine oP_let fun p0 e_p0 => ?_
    refine oP_let fun g1 e => ?_
    have f_g1 : fV g0 g1 := by rw [e, e_p0]; exact fV_tr f_g0 fn132_vq
    clear e
    refine oP_ite (fun hb => ?_) (fun hb => ?_)
    · refine oP_ite (fun hb => ?_) (fun hb => ?_)
      · refine oP_ite (fun hb => ?_) (fun hb => ?_)
        · refine oP_let fun p1 e_p1 => ?_
          refine oP_let fun g2 e => ?_
          have f_g2 : fV g0 g2 := by rw [e, e_p1]; exact fV_tr f_g1 fn230_vq
          clear e
          refine oP_ite (fun hb => ?_) (fun hb => ?_)
          · refine oP_let fun p2 e_p2 => ?_
            refine oP_let fun g3 e => ?_
            have f_g3 : fV g0 g3 := by rw [e, e_p2]; exact fV_tr f_g2 fn247_vq
            clear e
            refine oP_ite (fun hb => ?_) (fun hb => ?_)
            · exact f_g3
            · refine oP_ite (fun hb => ?_) (fun hb => ?_)
              · exact f_g3
              · exact f_g3
          · exact f_g2
        · refine oP_let fun p1 e_p1 => ?_
          refine oP_let fun g2 e => ?_
          have f_g2 : fV g0 g2 := by rw [e, e_p1]; exact fV_tr f_g1 fn228_vq
          clear e
          refine oP_ite (fun hb => ?_) (fun hb => ?_)
          · exact f_g2
          · refine oP_let fun p2 e_p2 => ?_
            refine oP_let fun g3 e => ?_
            have f_g3 : fV g0 g3 := by rw [e, e_p2]; exact fV_tr f_g2 fn247_vq
            clear e
            refine oP_ite (fun hb => ?_) (fun hb => ?_)
            · exact f_g3
            · refine oP_ite (fun hb => ?_) (fun hb => ?_)
              · exact f_g3
              · exact f_g3
      · refine oP_ite (fun hb => ?_) (fun hb => ?_)
        · refine oP_let fun p1 e_p1 => ?_
          refine oP_let fun g2 e => ?_
          have f_g2 : fV g0 g2 := by rw [e, e_p1]; exact fV_tr f_g1 fn229_vq
          clear e
          refine oP_ite (fun hb => ?_) (fun hb => ?_)
          · refine oP_let fun p2 e_p2 => ?_
            refine oP_let fun g3 e => ?_
            have f_g3 : fV g0 g3 := by rw [e, e_p2]; exact fV_tr f_g2 fn247_vq
            clear e
            refine oP_ite (fun hb => ?_) (fun hb => ?_)
            · exact f_g3
            · refine oP_ite (fun hb => ?_) (fun hb => ?_)
              · exact f_g3
              · exact f_g3
          · exact f_g2
        · refine oP_let fun p1 e_p1 => ?_
          refine oP_let fun g2 e => ?_
          have f_g2 : fV g0 g2 := by rw [e, e_p1]; exact fV_tr f_g1 fn231_vq
          clear e
          refine oP_ite (fun hb => ?_) (fun hb => ?_)
          · refine oP_let fun p2 e_p2 => ?_
            refine oP_let fun g3 e => ?_
            have f_g3 : fV g0 g3 := by rw [e, e_p2]; exact fV_tr f_g2 fn247_vq
            clear e
            refine oP_ite (fun hb => ?_) (fun hb => ?_)
            · exact f_g3
            · refine oP_ite (fun hb => ?_) (fun hb => ?_)
              · exact f_g3
              · exact f_g3
          · exact f_g2
    · refine oP_let fun p1 e_p1 => ?_
      refine oP_let fun g2 e => ?_
      have f_g2 : fV g0 g2 := by rw [e, e_p1]; exact fV_tr f_g1 fn248_vq
      clear e
      refine oP_ite (fun hb => ?_) (fun hb => ?_)
      · exact f_g2
      · refine oP_ite (fun hb => ?_) (fun hb => ?_)
        · exact f_g2
        · exact f_g2
theorem fn250_vq {x : List Int} {g0 : rHp} : fV g0 (fn250 x g0).2.2 := by
  have f_g0 : fV g0 g0 := fV_refl
  refine zGoo_P (I := fun s => fV g0 s.2.2) fV_zero (fun s hs => ?_) ?_
  · unfold en250
    refine oS_ite (fun hb => ?_) (fun hb => ?_)
    · refine oS_let fun g1 e => ?_
      have f_g1 : fV g0 g1 := by rw [e]; exact hs
      clear e
      refine oS_dl ?_
      refine oS_dl ?_
      refine oS_dl ?_
      refine oS_dl ?_
      refine oS_dl ?_
      refine oS_dl ?_
      refine oS_dl ?_
      refine oS_dl ?_
      refine oS_ite (fun hb => ?_) (fun hb => ?_)
      · exact f_g1
      · refine oS_ite (fun hb => ?_) (fun hb => ?_)
        · exact f_g1
        · refine oS_ite (fun hb => ?_) (fun hb => ?_)
          · exact f_g1
          · refine oS_ite (fun hb => ?_) (fun hb => ?_)
            · refine oS_let fun p1 e_p1 => ?_
              refine oS_let fun g2 e => ?_
              have f_g2 : fV g0 g2 := by rw [e, e_p1]; exact fV_tr f_g1 fn227_vq
              clear e
              refine oS_dl ?_
              exact f_g2
            · refine oS_let fun p1 e_p1 => ?_
              refine oS_let fun g2 e => ?_
              have f_g2 : fV g0 g2 := by rw [e, e_p1]; exact fV_tr f_g1 fn225_vq
              clear e
              refine oS_ite (fun hb => ?_) (fun hb => ?_)
              · refine oS_let fun p2 e_p2 => ?_
                refine oS_let fun g3 e => ?_
                have f_g3 : fV g0 g3 := by rw [e, e_p2]; exact fV_tr f_g2 fn232_vq
                clear e
                refine oS_ite (fun hb => ?_) (fun hb => ?_)
                · refine oS_ite (fun hb => ?_) (fun hb => ?_)
                  · refine oS_let fun g4 e => ?_
                    have f_g4 : fV g0 g4 := by rw [e]; exact fV_6 f_g3 (by decide)
                    clear e
                    refine oS_let fun p4 e_p4 => ?_
                    refine oS_let fun g5 e => ?_
                    have f_g5 : fV g0 g5 := by rw [e, e_p4]; exact fV_tr f_g4 fn249_vq
                    clear e
                    refine oS_ite (fun hb => ?_) (fun hb => ?_)
                    · refine oS_dl ?_
                      refine oS_let fun g6 e => ?_
                      have f_g6 : fV g0 g6 := by rw [e]; exact fV_6 f_g5 (by decide)
                      clear e
                      refine oS_let fun p6 e_p6 => ?_
                      refine oS_let fun g7 e => ?_
                      have f_g7 : fV g0 g7 := by rw [e, e_p6]; exact fV_tr f_g6 fn227_vq
                      clear e
                      refine oS_dl ?_
                      exact f_g7
                    · refine oS_ite (fun hb => ?_) (fun hb => ?_)
                      · exact f_g5
                      · exact f_g5
                  · refine oS_dl ?_
                    refine oS_let fun g4 e => ?_
                    have f_g4 : fV g0 g4 := by rw [e]; exact fV_6 f_g3 (by decide)
                    clear e
                    refine oS_let fun p4 e_p4 => ?_
                    refine oS_let fun g5 e => ?_
                    have f_g5 : fV g0 g5 := by rw [e, e_p4]; exact fV_tr f_g4 fn249_vq
                    clear e
                    refine oS_ite (fun hb => ?_) (fun hb => ?_)
                    · refine oS_dl ?_
                      refine oS_dl ?_
                      refine oS_let fun g6 e => ?_
                      have f_g6 : fV g0 g6 := by rw [e]; exact fV_6 f_g5 (by decide)
                      clear e
                      refine oS_let fun p6 e_p6 => ?_
                      refine oS_let fun g7 e => ?_
                      have f_g7 : fV g0 g7 := by rw [e, e_p6]; exact fV_tr f_g6 fn227_vq
                      clear e
                      refine oS_dl ?_
                      exact f_g7
                    · refine oS_ite (fun hb => ?_) (fun hb => ?_)
                      · exact f_g5
                      · exact f_g5
                · exact f_g3
              · refine oS_let fun p2 e_p2 => ?_
                refine oS_let fun g3 e => ?_
                have f_g3 : fV g0 g3 := by rw [e, e_p2]; exact fV_tr f_g2 fn227_vq
                clear e
                refine oS_dl ?_
                exact f_g3
    · exact f_g0
  · unfold dn250
    refine oS_dl ?_
    refine oS_dl ?_
    refine oS_dl ?_
    refine oS_dl ?_
    refine oS_dl ?_
    refine oS_dl ?_
    refine oS_ite (fun hb => ?_) (fun hb => ?_)
    · refine oS_let fun p0 e_p0 => ?_
      refine oS_let fun g1 e => ?_
      have f_g1 : fV g0 g1 := by rw [e, e_p0]; exact fV_tr f_g0 fn226_vq
      clear e
      refine oS_dl ?_
      exact f_g1
    · refine oS_ite (fun hb => ?_) (fun hb => ?_)
      · refine oS_let fun p0 e_p0 => ?_
        refine oS_let fun g1 e => ?_
        have f_g1 : fV g0 g1 := by rw [e, e_p0]; exact fV_tr f_g0 fn226_vq
        clear e
        refine oS_dl ?_
        exact f_g1
      · refine oS_ite (fun hb => ?_) (fun hb => ?_)
        · refine oS_let fun p0 e_p0 => ?_
          refine oS_let fun g1 e => ?_
          have f_g1 : fV g0 g1 := by rw [e, e_p0]; exact fV_tr f_g0 fn226_vq
          clear e
          refine oS_dl ?_
          exact f_g1
        · refine oS_let fun p0 e_p0 => ?_
          refine oS_let fun g1 e => ?_
          have f_g1 : fV g0 g1 := by rw [e, e_p0]; exact fV_tr f_g0 fn226_vq
          clear e
          refine oS_dl ?_
          exact f_g1
theorem fn251_vq {x : List Int} {g0 : rHp} : fV g0 (fn251 x g0).2.2 := by
  have f_g0 : fV g0 g0 := fV_refl
  show oP (fun h => fV g0 h) (fn251 x g0)
  unfold fn251
  refine oP_dl ?_
  refine oP_dl ?_
  refine oP_dl ?_
  refine oP_ite (fun hb => ?_) (fun hb => ?_)
  · refine oP_let fun p0 e_p0 => ?_
    refine oP_let fun g1 e => ?_
    have f_g1 : fV g0 g1 := by rw [e, e_p0]; exact fV_tr f_g0 fn244_vq
    clear e
    refine oP_ite (fun hb => ?_) (fun hb => ?_)
    · exact f_g1
    · exact f_g1
  · refine oP_let fun p0 e_p0 => ?_
    refine oP_let fun g1 e => ?_
    have f_g1 : fV g0 g1 := by rw [e, e_p0]; exact fV_tr f_g0 fn132_vq
    clear e
    refine oP_ite (fun hb => ?_) (fun hb => ?_)
    · refine oP_ite (fun hb => ?_) (fun hb => ?_)
      · refine oP_ite (fun hb => ?_) (fun hb => ?_)
        · refine oP_let fun p1 e_p1 => ?_
          refine oP_let fun g2 e => ?_
          have f_g2 : fV g0 g2 := by rw [e, e_p1]; exact fV_tr f_g1 fn230_vq
          clear e
          refine oP_ite (fun hb => ?_) (fun hb => ?_)
          · refine oP_let fun p2 e_p2 => ?_
            refine oP_let fun g3 e => ?_
            have f_g3 : fV g0 g3 := by rw [e, e_p2]; exact fV_tr f_g2 fn249_vq
            clear e
            refine oP_ite (fun hb => ?_) (fun hb => ?_)
            · exact f_g3
            · refine oP_ite (fun hb => ?_) (fun hb => ?_)
              · exact f_g3
              · exact f_g3
          · exact f_g2
        · refine oP_let fun p1 e_p1 => ?_
          refine oP_let fun g2 e => ?_
          have f_g2 : fV g0 g2 := by rw [e, e_p1]; exact fV_tr f_g1 fn228_vq
          clear e
          refine oP_ite (fun hb => ?_) (fun hb => ?_)
          · exact f_g2
          · refine oP_let fun p2 e_p2 => ?_
            refine oP_let fun g3 e => ?_
            have f_g3 : fV g0 g3 := by rw [e, e_p2]; exact fV_tr f_g2 fn249_vq
            clear e
            refine oP_ite (fun hb => ?_) (fun hb => ?_)
            · exact f_g3
            · refine oP_ite (fun hb => ?_) (fun hb => ?_)
              · exact f_g3
              · exact f_g3
      · refine oP_ite (fun hb => ?_) (fun hb => ?_)
        · refine oP_let fun p1 e_p1 => ?_
          refine oP_let fun g2 e => ?_
          have f_g2 : fV g0 g2 := by rw [e, e_p1]; exact fV_tr f_g1 fn229_vq
          clear e
          refine oP_ite (fun hb => ?_) (fun hb => ?_)
          · refine oP_let fun p2 e_p2 => ?_
            refine oP_let fun g3 e => ?_
            have f_g3 : fV g0 g3 := by rw [e, e_p2]; exact fV_tr f_g2 fn249_vq
            clear e
            refine oP_ite (fun hb => ?_) (fun hb => ?_)
            · exact f_g3
            · refine oP_ite (fun hb => ?_) (fun hb => ?_)
              · exact f_g3
              · exact f_g3
          · exact f_g2
        · refine oP_let fun p1 e_p1 => ?_
          refine oP_let fun g2 e => ?_
          have f_g2 : fV g0 g2 := by rw [e, e_p1]; exact fV_tr f_g1 fn231_vq
          clear e
          refine oP_ite (fun hb => ?_) (fun hb => ?_)
          · refine oP_let fun p2 e_p2 => ?_
            refine oP_let fun g3 e => ?_
            have f_g3 : fV g0 g3 := by rw [e, e_p2]; exact fV_tr f_g2 fn249_vq
            clear e
            refine oP_ite (fun hb => ?_) (fun hb => ?_)
            · exact f_g3
            · refine oP_ite (fun hb => ?_) (fun hb => ?_)
              · exact f_g3
              · exact f_g3
          · exact f_g2
    · refine oP_let fun p1 e_p1 => ?_
      refine oP_let fun g2 e => ?_
      have f_g2 : fV g0 g2 := by rw [e, e_p1]; exact fV_tr f_g1 fn250_vq
      clear e
      refine oP_ite (fun hb => ?_) (fun hb => ?_)
      · exact f_g2
      · refine oP_ite (fun hb => ?_) (fun hb => ?_)
        · exact f_g2
        · exact f_g2
theorem fn252_vq {x : List Int} {g0 : rHp} : fV g0 (fn252 x g0).2.2 := by
  have f_g0 : fV g0 g0 := fV_refl
  refine zGoo_P (I := fun s => fV g0 s.2.2) fV_zero (fun s hs => ?_) ?_
  · unfold en252
    refine oS_ite (fun hb => ?_) (fun hb => ?_)
    · refine oS_let fun g1 e => ?_
      have f_g1 : fV g0 g1 := by rw [e]; exact hs
      clear e
      refine oS_dl ?_
      refine oS_dl ?_
      refine oS_dl ?_
      refine oS_dl ?_
      refine oS_dl ?_
      refine oS_dl ?_
      refine oS_dl ?_
      refine oS_dl ?_
      refine oS_ite (fun hb => ?_) (fun hb => ?_)
      · exact f_g1
      · refine oS_ite (fun hb => ?_) (fun hb => ?_)
        · exact f_g1
        · refine oS_ite (fun hb => ?_) (fun hb => ?_)
          · exact f_g1
          · refine oS_ite (fun hb => ?_) (fun hb => ?_)
            · refine oS_let fun p1 e_p1 => ?_
              refine oS_let fun g2 e => ?_
              have f_g2 : fV g0 g2 := by rw [e, e_p1]; exact fV_tr f_g1 fn227_vq
              clear e
              refine oS_dl ?_
              exact f_g2
            · refine oS_let fun p1 e_p1 => ?_
              refine oS_let fun g2 e => ?_
              have f_g2 : fV g0 g2 := by rw [e, e_p1]; exact fV_tr f_g1 fn225_vq
              clear e
              refine oS_ite (fun hb => ?_) (fun hb => ?_)
              · refine oS_let fun p2 e_p2 => ?_
                refine oS_let fun g3 e => ?_
                have f_g3 : fV g0 g3 := by rw [e, e_p2]; exact fV_tr f_g2 fn232_vq
                clear e
                refine oS_ite (fun hb => ?_) (fun hb => ?_)
                · refine oS_ite (fun hb => ?_) (fun hb => ?_)
                  · refine oS_let fun g4 e => ?_
                    have f_g4 : fV g0 g4 := by rw [e]; exact fV_6 f_g3 (by decide)
                    clear e
                    refine oS_let fun p4 e_p4 => ?_
                    refine oS_let fun g5 e => ?_
                    have f_g5 : fV g0 g5 := by rw [e, e_p4]; exact fV_tr f_g4 fn251_vq
                    clear e
                    refine oS_ite (fun hb => ?_) (fun hb => ?_)
                    · refine oS_dl ?_
                      refine oS_let fun g6 e => ?_
                      have f_g6 : fV g0 g6 := by rw [e]; exact fV_6 f_g5 (by decide)
                      clear e
                      refine oS_let fun p6 e_p6 => ?_
                      refine oS_let fun g7 e => ?_
                      have f_g7 : fV g0 g7 := by rw [e, e_p6]; exact fV_tr f_g6 fn227_vq
                      clear e
                      refine oS_dl ?_
                      exact f_g7
                    · refine oS_ite (fun hb => ?_) (fun hb => ?_)
                      · exact f_g5
                      · exact f_g5
                  · refine oS_dl ?_
                    refine oS_let fun g4 e => ?_
                    have f_g4 : fV g0 g4 := by rw [e]; exact fV_6 f_g3 (by decide)
                    clear e
                    refine oS_let fun p4 e_p4 => ?_
                    refine oS_let fun g5 e => ?_
                    have f_g5 : fV g0 g5 := by rw [e, e_p4]; exact fV_tr f_g4 fn251_vq
                    clear e
                    refine oS_ite (fun hb => ?_) (fun hb => ?_)
                    · refine oS_dl ?_
                      refine oS_dl ?_
                      refine oS_let fun g6 e => ?_
                      have f_g6 : fV g0 g6 := by rw [e]; exact fV_6 f_g5 (by decide)
                      clear e
                      refine oS_let fun p6 e_p6 => ?_
                      refine oS_let fun g7 e => ?_
                      have f_g7 : fV g0 g7 := by rw [e, e_p6]; exact fV_tr f_g6 fn227_vq
                      clear e
                      refine oS_dl ?_
                      exact f_g7
                    · refine oS_ite (fun hb => ?_) (fun hb => ?_)
                      · exact f_g5
                      · exact f_g5
                · exact f_g3
              · refine oS_let fun p2 e_p2 => ?_
                refine oS_let fun g3 e => ?_
                have f_g3 : fV g0 g3 := by rw [e, e_p2]; exact fV_tr f_g2 fn227_vq
                clear e
                refine oS_dl ?_
                exact f_g3
    · exact f_g0
  · unfold dn252
    refine oS_dl ?_
    refine oS_dl ?_
    refine oS_dl ?_
    refine oS_dl ?_
    refine oS_dl ?_
    refine oS_dl ?_
    refine oS_ite (fun hb => ?_) (fun hb => ?_)
    · refine oS_let fun p0 e_p0 => ?_
      refine oS_let fun g1 e => ?_
      have f_g1 : fV g0 g1 := by rw [e, e_p0]; exact fV_tr f_g0 fn226_vq
      clear e
      refine oS_dl ?_
      exact f_g1
    · refine oS_ite (fun hb => ?_) (fun hb => ?_)
      · refine oS_let fun p0 e_p0 => ?_
        refine oS_let fun g1 e => ?_
        have f_g1 : fV g0 g1 := by rw [e, e_p0]; exact fV_tr f_g0 fn226_vq
        clear e
        refine oS_dl ?_
        exact f_g1
      · refine oS_ite (fun hb => ?_) (fun hb => ?_)
        · refine oS_let fun p0 e_p0 => ?_
          refine oS_let fun g1 e => ?_
          have f_g1 : fV g0 g1 := by rw [e, e_p0]; exact fV_tr f_g0 fn226_vq
          clear e
          refine oS_dl ?_
          exact f_g1
        · refine oS_let fun p0 e_p0 => ?_
          refine oS_let fun g1 e => ?_
          have f_g1 : fV g0 g1 := by rw [e, e_p0]; exact fV_tr f_g0 fn226_vq
          clear e
          refine oS_dl ?_
          exact f_g1
theorem fn253_vq {x : List Int} {g0 : rHp} : fV g0 (fn253 x g0).2.2 := by
  have f_g0 : fV g0 g0 := fV_refl
  show oP (fun h => fV g0 h) (fn253 x g0)
  unfold fn253
  refine oP_dl ?_
  refine oP_dl ?_
  refine oP_dl ?_
  refine oP_ite (fun hb => ?_) (fun hb => ?_)
  · refine oP_let fun p0 e_p0 => ?_
    refine oP_let fun g1 e => ?_
    have f_g1 : fV g0 g1 := by rw [e, e_p0]; exact fV_tr f_g0 fn244_vq
    clear e
    refine oP_ite (fun hb => ?_) (fun hb => ?_)
    · exact f_g1
    · exact f_g1
  · refine oP_let fun p0 e_p0 => ?_
    refine oP_let fun g1 e => ?_
    have f_g1 : fV g0 g1 := by rw [e, e_p0]; exact fV_tr f_g0 fn132_vq
    clear e
    refine oP_ite (fun hb => ?_) (fun hb => ?_)
    · refine oP_ite (fun hb => ?_) (fun hb => ?_)
      · refine oP_ite (fun hb => ?_) (fun hb => ?_)
        · refine oP_let fun p1 e_p1 => ?_
          refine oP_let fun g2 e => ?_
          have f_g2 : fV g0 g2 := by rw [e, e_p1]; exact fV_tr f_g1 fn230_vq
          clear e
          refine oP_ite (fun hb => ?_) (fun hb => ?_)
          · refine oP_let fun p2 e_p2 => ?_
            refine oP_let fun g3 e => ?_
            have f_g3 : fV g0 g3 := by rw [e, e_p2]; exact fV_tr f_g2 fn251_vq
            clear e
            refine oP_ite (fun hb => ?_) (fun hb => ?_)
            · exact f_g3
            · refine oP_ite (fun hb => ?_) (fun hb => ?_)
              · exact f_g3
              · exact f_g3
          · exact f_g2
        · refine oP_let fun p1 e_p1 => ?_
          refine oP_let fun g2 e => ?_
          have f_g2 : fV g0 g2 := by rw [e, e_p1]; exact fV_tr f_g1 fn228_vq
          clear e
          refine oP_ite (fun hb => ?_) (fun hb => ?_)
          · exact f_g2
          · refine oP_let fun p2 e_p2 => ?_
            refine oP_let fun g3 e => ?_
            have f_g3 : fV g0 g3 := by rw [e, e_p2]; exact fV_tr f_g2 fn251_vq
            clear e
            refine oP_ite (fun hb => ?_) (fun hb => ?_)
            · exact f_g3
            · refine oP_ite (fun hb => ?_) (fun hb => ?_)
              · exact f_g3
              · exact f_g3
      · refine oP_ite (fun hb => ?_) (fun hb => ?_)
        · refine oP_let fun p1 e_p1 => ?_
          refine oP_let fun g2 e => ?_
          have f_g2 : fV g0 g2 := by rw [e, e_p1]; exact fV_tr f_g1 fn229_vq
          clear e
          refine oP_ite (fun hb => ?_) (fun hb => ?_)
          · refine oP_let fun p2 e_p2 => ?_
            refine oP_let fun g3 e => ?_
            have f_g3 : fV g0 g3 := by rw [e, e_p2]; exact fV_tr f_g2 fn251_vq
            clear e
            refine oP_ite (fun hb => ?_) (fun hb => ?_)
            · exact f_g3
            · refine oP_ite (fun hb => ?_) (fun hb => ?_)
              · exact f_g3
              · exact f_g3
          · exact f_g2
        · refine oP_let fun p1 e_p1 => ?_
          refine oP_let fun g2 e => ?_
          have f_g2 : fV g0 g2 := by rw [e, e_p1]; exact fV_tr f_g1 fn231_vq
          clear e
          refine oP_ite (fun hb => ?_) (fun hb => ?_)
          · refine oP_let fun p2 e_p2 => ?_
            refine oP_let fun g3 e => ?_
            have f_g3 : fV g0 g3 := by rw [e, e_p2]; exact fV_tr f_g2 fn251_vq
            clear e
            refine oP_ite (fun hb => ?_) (fun hb => ?_)
            · exact f_g3
            · refine oP_ite (fun hb => ?_) (fun hb => ?_)
              · exact f_g3
              · exact f_g3
          · exact f_g2
    · refine oP_let fun p1 e_p1 => ?_
      refine oP_let fun g2 e => ?_
      have f_g2 : fV g0 g2 := by rw [e, e_p1]; exact fV_tr f_g1 fn252_vq
      clear e
      refine oP_ite (fun hb => ?_) (fun hb => ?_)
      · exact f_g2
      · refine oP_ite (fun hb => ?_) (fun hb => ?_)
        · exact f_g2
        · exact f_g2
theorem fn254_vq {x : List Int} {g0 : rHp} : fV g0 (fn254 x g0).2.2 := by
  have f_g0 : fV g0 g0 := fV_refl
  refine zGoo_P (I := fun s => fV g0 s.2.2) fV_zero (fun s hs => ?_) ?_
  · unfold en254
    refine oS_ite (fun hb => ?_) (fun hb => ?_)
    · refine oS_let fun g1 e => ?_
      have f_g1 : fV g0 g1 := by rw [e]; exact hs
      clear e
      refine oS_dl ?_
      refine oS_dl ?_
      refine oS_dl ?_
      refine oS_dl ?_
      refine oS_dl ?_
      refine oS_dl ?_
      refine oS_dl ?_
      refine oS_dl ?_
      refine oS_ite (fun hb => ?_) (fun hb => ?_)
      · exact f_g1
      · refine oS_ite (fun hb => ?_) (fun hb => ?_)
        · exact f_g1
        · refine oS_ite (fun hb => ?_) (fun hb => ?_)
          · exact f_g1
          · refine oS_ite (fun hb => ?_) (fun hb => ?_)
            · refine oS_let fun p1 e_p1 => ?_
              refine oS_let fun g2 e => ?_
              have f_g2 : fV g0 g2 := by rw [e, e_p1]; exact fV_tr f_g1 fn227_vq
              clear e
              refine oS_dl ?_
              exact f_g2
            · refine oS_let fun p1 e_p1 => ?_
              refine oS_let fun g2 e => ?_
              have f_g2 : fV g0 g2 := by rw [e, e_p1]; exact fV_tr f_g1 fn225_vq
              clear e
              refine oS_ite (fun hb => ?_) (fun hb => ?_)
              · refine oS_let fun p2 e_p2 => ?_
                refine oS_let fun g3 e => ?_
                have f_g3 : fV g0 g3 := by rw [e, e_p2]; exact fV_tr f_g2 fn232_vq
                clear e
                refine oS_ite (fun hb => ?_) (fun hb => ?_)
                · refine oS_ite (fun hb => ?_) (fun hb => ?_)
                  · refine oS_let fun g4 e => ?_
                    have f_g4 : fV g0 g4 := by rw [e]; exact fV_6 f_g3 (by decide)
                    clear e
                    refine oS_let fun p4 e_p4 => ?_
                    refine oS_let fun g5 e => ?_
                    have f_g5 : fV g0 g5 := by rw [e, e_p4]; exact fV_tr f_g4 fn253_vq
                    clear e
                    refine oS_ite (fun hb => ?_) (fun hb => ?_)
                    · refine oS_dl ?_
                      refine oS_let fun g6 e => ?_
                      have f_g6 : fV g0 g6 := by rw [e]; exact fV_6 f_g5 (by decide)
                      clear e
                      refine oS_let fun p6 e_p6 => ?_
                      refine oS_let fun g7 e => ?_
                      have f_g7 : fV g0 g7 := by rw [e, e_p6]; exact fV_tr f_g6 fn227_vq
                      clear e
                      refine oS_dl ?_
                      exact f_g7
                    · refine oS_ite (fun hb => ?_) (fun hb => ?_)
                      · exact f_g5
                      · exact f_g5
                  · refine oS_dl ?_
                    refine oS_let fun g4 e => ?_
                    have f_g4 : fV g0 g4 := by rw [e]; exact fV_6 f_g3 (by decide)
                    clear e
                    refine oS_let fun p4 e_p4 => ?_
                    refine oS_let fun g5 e => ?_
                    have f_g5 : fV g0 g5 := by rw [e, e_p4]; exact fV_tr f_g4 fn253_vq
                    clear e
                    refine oS_ite (fun hb => ?_) (fun hb => ?_)
                    · refine oS_dl ?_
                      refine oS_dl ?_
                      refine oS_let fun g6 e => ?_
                      have f_g6 : fV g0 g6 := by rw [e]; exact fV_6 f_g5 (by decide)
                      clear e
                      refine oS_let fun p6 e_p6 => ?_
                      refine oS_let fun g7 e => ?_
                      have f_g7 : fV g0 g7 := by rw [e, e_p6]; exact fV_tr f_g6 fn227_vq
                      clear e
                      refine oS_dl ?_
                      exact f_g7
                    · refine oS_ite (fun hb => ?_) (fun hb => ?_)
                      · exact f_g5
                      · exact f_g5
                · exact f_g3
              · refine oS_let fun p2 e_p2 => ?_
                refine oS_let fun g3 e => ?_
                have f_g3 : fV g0 g3 := by rw [e, e_p2]; exact fV_tr f_g2 fn227_vq
                clear e
                refine oS_dl ?_
                exact f_g3
    · exact f_g0
  · unfold dn254
    refine oS_dl ?_
    refine oS_dl ?_
    refine oS_dl ?_
    refine oS_dl ?_
    refine oS_dl ?_
    refine oS_dl ?_
    refine oS_ite (fun hb => ?_) (fun hb => ?_)
    · refine oS_let fun p0 e_p0 => ?_
      refine oS_let fun g1 e => ?_
      have f_g1 : fV g0 g1 := by rw [e, e_p0]; exact fV_tr f_g0 fn226_vq
      clear e
      refine oS_dl ?_
      exact f_g1
    · refine oS_ite (fun hb => ?_) (fun hb => ?_)
      · refine oS_let fun p0 e_p0 => ?_
        refine oS_let fun g1 e => ?_
        have f_g1 : fV g0 g1 := by rw [e, e_p0]; exact fV_tr f_g0 fn226_vq
        clear e
        refine oS_dl ?_
        exact f_g1
      · refine oS_ite (fun hb => ?_) (fun hb => ?_)
        · refine oS_let fun p0 e_p0 => ?_
          refine oS_let fun g1 e => ?_
          have f_g1 : fV g0 g1 := by rw [e, e_p0]; exact fV_tr f_g0 fn226_vq
          clear e
          refine oS_dl ?_
          exact f_g1
        · refine oS_let fun p0 e_p0 => ?_
          refine oS_let fun g1 e => ?_
          have f_g1 : fV g0 g1 := by rw [e, e_p0]; exact fV_tr f_g0 fn226_vq
          clear e
          refine oS_dl ?_
          exact f_g1
theorem fn255_vq {x : List Int} {g0 : rHp} : fV g0 (fn255 x g0).2.2 := by
  have f_g0 : fV g0 g0 := fV_refl
  show oP (fun h => fV g0 h) (fn255 x g0)
  unfold fn255
  refine oP_dl ?_
  refine oP_dl ?_
  refine oP_dl ?_
  refine oP_ite (fun hb => ?_) (fun hb => ?_)
  · refine oP_let fun p0 e_p0 => ?_
    refine oP_let fun g1 e => ?_
    have f_g1 : fV g0 g1 := by rw [e, e_p0]; exact fV_tr f_g0 fn244_vq
    clear e
    refine oP_ite (fun hb => ?_) (fun hb => ?_)
    · exact f_g1
    · exact f_g1
  · refine oP_let fun p0 e_p0 => ?_
    refine oP_let fun g1 e => ?_
    have f_g1 : fV g0 g1 := by rw [e, e_p0]; exact fV_tr f_g0 fn132_vq
    clear e
    refine oP_ite (fun hb => ?_) (fun hb => ?_)
    · refine oP_ite (fun hb => ?_) (fun hb => ?_)
      · refine oP_ite (fun hb => ?_) (fun hb => ?_)
        · refine oP_let fun p1 e_p1 => ?_
          refine oP_let fun g2 e => ?_
          have f_g2 : fV g0 g2 := by rw [e, e_p1]; exact fV_tr f_g1 fn230_vq
          clear e
          refine oP_ite (fun hb => ?_) (fun hb => ?_)
          · refine oP_let fun p2 e_p2 => ?_
            refine oP_let fun g3 e => ?_
            have f_g3 : fV g0 g3 := by rw [e, e_p2]; exact fV_tr f_g2 fn253_vq
            clear e
            refine oP_ite (fun hb => ?_) (fun hb => ?_)
            · exact f_g3
            · refine oP_ite (fun hb => ?_) (fun hb => ?_)
              · exact f_g3
              · exact f_g3
          · exact f_g2
        · refine oP_let fun p1 e_p1 => ?_
          refine oP_let fun g2 e => ?_
          have f_g2 : fV g0 g2 := by rw [e, e_p1]; exact fV_tr f_g1 fn228_vq
          clear e
          refine oP_ite (fun hb => ?_) (fun hb => ?_)
          · exact f_g2
          · refine oP_let fun p2 e_p2 => ?_
            refine oP_let fun g3 e => ?_
            have f_g3 : fV g0 g3 := by rw [e, e_p2]; exact fV_tr f_g2 fn253_vq
            clear e
            refine oP_ite (fun hb => ?_) (fun hb => ?_)
            · exact f_g3
            · refine oP_ite (fun hb => ?_) (fun hb => ?_)
              · exact f_g3
              · exact f_g3
      · refine oP_ite (fun hb => ?_) (fun hb => ?_)
        · refine oP_let fun p1 e_p1 => ?_
          refine oP_let fun g2 e => ?_
          have f_g2 : fV g0 g2 := by rw [e, e_p1]; exact fV_tr f_g1 fn229_vq
          clear e
          refine oP_ite (fun hb => ?_) (fun hb => ?_)
          · refine oP_let fun p2 e_p2 => ?_
            refine oP_let fun g3 e => ?_
            have f_g3 : fV g0 g3 := by rw [e, e_p2]; exact fV_tr f_g2 fn253_vq
            clear e
            refine oP_ite (fun hb => ?_) (fun hb => ?_)
            · exact f_g3
            · refine oP_ite (fun hb => ?_) (fun hb => ?_)
              · exact f_g3
              · exact f_g3
          · exact f_g2
        · refine oP_let fun p1 e_p1 => ?_
          refine oP_let fun g2 e => ?_
          have f_g2 : fV g0 g2 := by rw [e, e_p1]; exact fV_tr f_g1 fn231_vq
          clear e
          refine oP_ite (fun hb => ?_) (fun hb => ?_)
          · refine oP_let fun p2 e_p2 => ?_
            refine oP_let fun g3 e => ?_
            have f_g3 : fV g0 g3 := by rw [e, e_p2]; exact fV_tr f_g2 fn253_vq
            clear e
            refine oP_ite (fun hb => ?_) (fun hb => ?_)
            · exact f_g3
            · refine oP_ite (fun hb => ?_) (fun hb => ?_)
              · exact f_g3
              · exact f_g3
          · exact f_g2
    · refine oP_let fun p1 e_p1 => ?_
      refine oP_let fun g2 e => ?_
      have f_g2 : fV g0 g2 := by rw [e, e_p1]; exact fV_tr f_g1 fn254_vq
      clear e
      refine oP_ite (fun hb => ?_) (fun hb => ?_)
      · exact f_g2
      · refine oP_ite (fun hb => ?_) (fun hb => ?_)
        · exact f_g2
        · exact f_g2
theorem fn256_vq {x : List Int} {g0 : rHp} : fV g0 (fn256 x g0).2.2 := by
  have f_g0 : fV g0 g0 := fV_refl
  refine zGoo_P (I := fun s => fV g0 s.2.2) fV_zero (fun s hs => ?_) ?_
  · unfold en256
    refine oS_ite (fun hb => ?_) (fun hb => ?_)
    · refine oS_let fun g1 e => ?_
      have f_g1 : fV g0 g1 := by rw [e]; exact hs
      clear e
      refine oS_dl ?_
      refine oS_dl ?_
      refine oS_dl ?_
      refine oS_dl ?_
      refine oS_dl ?_
      refine oS_dl ?_
      refine oS_dl ?_
      refine oS_dl ?_
      refine oS_ite (fun hb => ?_) (fun hb => ?_)
      · exact f_g1
      · refine oS_ite (fun hb => ?_) (fun hb => ?_)
        · exact f_g1
        · refine oS_ite (fun hb => ?_) (fun hb => ?_)
          · exact f_g1
          · refine oS_ite (fun hb => ?_) (fun hb => ?_)
            · refine oS_let fun p1 e_p1 => ?_
              refine oS_let fun g2 e => ?_
              have f_g2 : fV g0 g2 := by rw [e, e_p1]; exact fV_tr f_g1 fn227_vq
              clear e
              refine oS_dl ?_
              exact f_g2
            · refine oS_let fun p1 e_p1 => ?_
              refine oS_let fun g2 e => ?_
              have f_g2 : fV g0 g2 := by rw [e, e_p1]; exact fV_tr f_g1 fn225_vq
              clear e
              refine oS_ite (fun hb => ?_) (fun hb => ?_)
              · refine oS_let fun p2 e_p2 => ?_
                refine oS_let fun g3 e => ?_
                have f_g3 : fV g0 g3 := by rw [e, e_p2]; exact fV_tr f_g2 fn232_vq
                clear e
                refine oS_ite (fun hb => ?_) (fun hb => ?_)
                · refine oS_ite (fun hb => ?_) (fun hb => ?_)
                  · refine oS_let fun g4 e => ?_
                    have f_g4 : fV g0 g4 := by rw [e]; exact fV_6 f_g3 (by decide)
                    clear e
                    refine oS_let fun p4 e_p4 => ?_
                    refine oS_let fun g5 e => ?_
                    have f_g5 : fV g0 g5 := by rw [e, e_p4]; exact fV_tr f_g4 fn255_vq
                    clear e
                    refine oS_ite (fun hb => ?_) (fun hb => ?_)
                    · refine oS_dl ?_
                      refine oS_let fun g6 e => ?_
                      have f_g6 : fV g0 g6 := by rw [e]; exact fV_6 f_g5 (by decide)
                      clear e
                      refine oS_let fun p6 e_p6 => ?_
                      refine oS_let fun g7 e => ?_
                      have f_g7 : fV g0 g7 := by rw [e, e_p6]; exact fV_tr f_g6 fn227_vq
                      clear e
                      refine oS_dl ?_
                      exact f_g7
                    · refine oS_ite (fun hb => ?_) (fun hb => ?_)
                      · exact f_g5
                      · exact f_g5
                  · refine oS_dl ?_
                    refine oS_let fun g4 e => ?_
                    have f_g4 : fV g0 g4 := by rw [e]; exact fV_6 f_g3 (by decide)
                    clear e
                    refine oS_let fun p4 e_p4 => ?_
                    refine oS_let fun g5 e => ?_
                    have f_g5 : fV g0 g5 := by rw [e, e_p4]; exact fV_tr f_g4 fn255_vq
                    clear e
                    refine oS_ite (fun hb => ?_) (fun hb => ?_)
                    · refine oS_dl ?_
                      refine oS_dl ?_
                      refine oS_let fun g6 e => ?_
                      have f_g6 : fV g0 g6 := by rw [e]; exact fV_6 f_g5 (by decide)
                      clear e
                      refine oS_let fun p6 e_p6 => ?_
                      refine oS_let fun g7 e => ?_
                      have f_g7 : fV g0 g7 := by rw [e, e_p6]; exact fV_tr f_g6 fn227_vq
                      clear e
                      refine oS_dl ?_
                      exact f_g7
                    · refine oS_ite (fun hb => ?_) (fun hb => ?_)
                      · exact f_g5
                      · exact f_g5
                · exact f_g3
              · refine oS_let fun p2 e_p2 => ?_
                refine oS_let fun g3 e => ?_
                have f_g3 : fV g0 g3 := by rw [e, e_p2]; exact fV_tr f_g2 fn227_vq
                clear e
                refine oS_dl ?_
                exact f_g3
    · exact f_g0
  · unfold dn256
    refine oS_dl ?_
    refine oS_dl ?_
    refine oS_dl ?_
    refine oS_dl ?_
    refine oS_dl ?_
    refine oS_dl ?_
    refine oS_ite (fun hb => ?_) (fun hb => ?_)
    · refine oS_let fun p0 e_p0 => ?_
      refine oS_let fun g1 e => ?_
      have f_g1 : fV g0 g1 := by rw [e, e_p0]; exact fV_tr f_g0 fn226_vq
      clear e
      refine oS_dl ?_
      exact f_g1
    · refine oS_ite (fun hb => ?_) (fun hb => ?_)
      · refine oS_let fun p0 e_p0 => ?_
        refine oS_let fun g1 e => ?_
        have f_g1 : fV g0 g1 := by rw [e, e_p0]; exact fV_tr f_g0 fn226_vq
        clear e
        refine oS_dl ?_
        exact f_g1
      · refine oS_ite (fun hb => ?_) (fun hb => ?_)
        · refine oS_let fun p0 e_p0 => ?_
          refine oS_let fun g1 e => ?_
          have f_g1 : fV g0 g1 := by rw [e, e_p0]; exact fV_tr f_g0 fn226_vq
          clear e
          refine oS_dl ?_
          exact f_g1
        · refine oS_let fun p0 e_p0 => ?_
          refine oS_let fun g1 e => ?_
          have f_g1 : fV g0 g1 := by rw [e, e_p0]; exact fV_tr f_g0 fn226_vq
          clear e
          refine oS_dl ?_
          exact f_g1
theorem fn257_vq {x : List Int} {g0 : rHp} : fV g0 (fn257 x g0).2.2 := by
  have f_g0 : fV g0 g0 := fV_refl
  show oP (fun h => fV g0 h) (fn257 x g0)
  unfold fn257
  refine oP_dl ?_
  refine oP_dl ?_
  refine oP_dl ?_
  refine oP_ite (fun hb => ?_) (fun hb => ?_)
  · refine oP_let fun p0 e_p0 => ?_
    refine oP_let fun g1 e => ?_
    have f_g1 : fV g0 g1 := by rw [e, e_p0]; exact fV_tr f_g0 fn244_vq
    clear e
    refine oP_ite (fun hb => ?_) (fun hb => ?_)
    · exact f_g1
    · exact f_g1
  · refine oP_let fun p0 e_p0 => ?_
    refine oP_let fun g1 e => ?_
    have f_g1 : fV g0 g1 := by rw [e, e_p0]; exact fV_tr f_g0 fn132_vq
    clear e
    refine oP_ite (fun hb => ?_) (fun hb => ?_)
    · refine oP_ite (fun hb => ?_) (fun hb => ?_)
      · refine oP_ite (fun hb => ?_) (fun hb => ?_)
        · refine oP_let fun p1 e_p1 => ?_
          refine oP_let fun g2 e => ?_
          have f_g2 : fV g0 g2 := by rw [e, e_p1]; exact fV_tr f_g1 fn230_vq
          clear e
          refine oP_ite (fun hb => ?_) (fun hb => ?_)
          · refine oP_let fun p2 e_p2 => ?_
            refine oP_let fun g3 e => ?_
            have f_g3 : fV g0 g3 := by rw [e, e_p2]; exact fV_tr f_g2 fn255_vq
            clear e
            refine oP_ite (fun hb => ?_) (fun hb => ?_)
            · exact f_g3
            · refine oP_ite (fun hb => ?_) (fun hb => ?_)
              · exact f_g3
              · exact f_g3
          · exact f_g2
        · refine oP_let fun p1 e_p1 => ?_
          refine oP_let fun g2 e => ?_
          have f_g2 : fV g0 g2 := by rw [e, e_p1]; exact fV_tr f_g1 fn228_vq
          clear e
          refine oP_ite (fun hb => ?_) (fun hb => ?_)
          · exact f_g2
          · refine oP_let fun p2 e_p2 => ?_
            refine oP_let fun g3 e => ?_
            have f_g3 : fV g0 g3 := by rw [e, e_p2]; exact fV_tr f_g2 fn255_vq
            clear e
            refine oP_ite (fun hb => ?_) (fun hb => ?_)
            · exact f_g3
            · refine oP_ite (fun hb => ?_) (fun hb => ?_)
              · exact f_g3
              · exact f_g3
      · refine oP_ite (fun hb => ?_) (fun hb => ?_)
        · refine oP_let fun p1 e_p1 => ?_
          refine oP_let fun g2 e => ?_
          have f_g2 : fV g0 g2 := by rw [e, e_p1]; exact fV_tr f_g1 fn229_vq
          clear e
          refine oP_ite (fun hb => ?_) (fun hb => ?_)
          · refine oP_let fun p2 e_p2 => ?_
            refine oP_let fun g3 e => ?_
            have f_g3 : fV g0 g3 := by rw [e, e_p2]; exact fV_tr f_g2 fn255_vq
            clear e
            refine oP_ite (fun hb => ?_) (fun hb => ?_)
            · exact f_g3
            · refine oP_ite (fun hb => ?_) (fun hb => ?_)
              · exact f_g3
              · exact f_g3
          · exact f_g2
        · refine oP_let fun p1 e_p1 => ?_
          refine oP_let fun g2 e => ?_
          have f_g2 : fV g0 g2 := by rw [e, e_p1]; exact fV_tr f_g1 fn231_vq
          clear e
          refine oP_ite (fun hb => ?_) (fun hb => ?_)
          · refine oP_let fun p2 e_p2 => ?_
            refine oP_let fun g3 e => ?_
            have f_g3 : fV g0 g3 := by rw [e, e_p2]; exact fV_tr f_g2 fn255_vq
            clear e
            refine oP_ite (fun hb => ?_) (fun hb => ?_)
            · exact f_g3
            · refine oP_ite (fun hb => ?_) (fun hb => ?_)
              · exact f_g3
              · exact f_g3
          · exact f_g2
    · refine oP_let fun p1 e_p1 => ?_
      refine oP_let fun g2 e => ?_
      have f_g2 : fV g0 g2 := by rw [e, e_p1]; exact fV_tr f_g1 fn256_vq
      clear e
      refine oP_ite (fun hb => ?_) (fun hb => ?_)
      · exact f_g2
      · refine oP_ite (fun hb => ?_) (fun hb => ?_)
        · exact f_g2
        · exact f_g2
theorem fn258_vq {x : List Int} {g0 : rHp} : fV g0 (fn258 x g0).2.2 := by
  have f_g0 : fV g0 g0 := fV_refl
  refine zGoo_P (I := fun s => fV g0 s.2.2) fV_zero (fun s hs => ?_) ?_
  · unfold en258
    refine oS_ite (fun hb => ?_) (fun hb => ?_)
    · refine oS_let fun g1 e => ?_
      have f_g1 : fV g0 g1 := by rw [e]; exact hs
      clear e
      refine oS_dl ?_
      refine oS_dl ?_
      refine oS_dl ?_
      refine oS_dl ?_
      refine oS_dl ?_
      refine oS_dl ?_
      refine oS_dl ?_
      refine oS_dl ?_
      refine oS_ite (fun hb => ?_) (fun hb => ?_)
      · exact f_g1
      · refine oS_ite (fun hb => ?_) (fun hb => ?_)
        · exact f_g1
        · refine oS_ite (fun hb => ?_) (fun hb => ?_)
          · exact f_g1
          · refine oS_ite (fun hb => ?_) (fun hb => ?_)
            · refine oS_let fun p1 e_p1 => ?_
              refine oS_let fun g2 e => ?_
              have f_g2 : fV g0 g2 := by rw [e, e_p1]; exact fV_tr f_g1 fn227_vq
              clear e
              refine oS_dl ?_
              exact f_g2
            · refine oS_let fun p1 e_p1 => ?_
              refine oS_let fun g2 e => ?_
              have f_g2 : fV g0 g2 := by rw [e, e_p1]; exact fV_tr f_g1 fn225_vq
              clear e
              refine oS_ite (fun hb => ?_) (fun hb => ?_)
              · refine oS_let fun p2 e_p2 => ?_
                refine oS_let fun g3 e => ?_
                have f_g3 : fV g0 g3 := by rw [e, e_p2]; exact fV_tr f_g2 fn232_vq
                clear e
                refine oS_ite (fun hb => ?_) (fun hb => ?_)
                · refine oS_ite (fun hb => ?_) (fun hb => ?_)
                  · refine oS_let fun g4 e => ?_
                    have f_g4 : fV g0 g4 := by rw [e]; exact fV_6 f_g3 (by decide)
                    clear e
                    refine oS_let fun p4 e_p4 => ?_
                    refine oS_let fun g5 e => ?_
                    have f_g5 : fV g0 g5 := by rw [e, e_p4]; exact fV_tr f_g4 fn257_vq
                    clear e
                    refine oS_ite (fun hb => ?_) (fun hb => ?_)
                    · refine oS_dl ?_
                      refine oS_let fun g6 e => ?_
                      have f_g6 : fV g0 g6 := by rw [e]; exact fV_6 f_g5 (by decide)
                      clear e
                      refine oS_let fun p6 e_p6 => ?_
                      refine oS_let fun g7 e => ?_
                      have f_g7 : fV g0 g7 := by rw [e, e_p6]; exact fV_tr f_g6 fn227_vq
                      clear e
                      refine oS_dl ?_
                      exact f_g7
                    · refine oS_ite (fun hb => ?_) (fun hb => ?_)
                      · exact f_g5
                      · exact f_g5
                  · refine oS_dl ?_
                    refine oS_let fun g4 e => ?_
                    have f_g4 : fV g0 g4 := by rw [e]; exact fV_6 f_g3 (by decide)
                    clear e
                    refine oS_let fun p4 e_p4 => ?_
                    refine oS_let fun g5 e => ?_
                    have f_g5 : fV g0 g5 := by rw [e, e_p4]; exact fV_tr f_g4 fn257_vq
                    clear e
                    refine oS_ite (fun hb => ?_) (fun hb => ?_)
                    · refine oS_dl ?_
                      refine oS_dl ?_
                      refine oS_let fun g6 e => ?_
                      have f_g6 : fV g0 g6 := by rw [e]; exact fV_6 f_g5 (by decide)
                      clear e
                      refine oS_let fun p6 e_p6 => ?_
                      refine oS_let fun g7 e => ?_
                      have f_g7 : fV g0 g7 := by rw [e, e_p6]; exact fV_tr f_g6 fn227_vq
                      clear e
                      refine oS_dl ?_
                      exact f_g7
                    · refine oS_ite (fun hb => ?_) (fun hb => ?_)
                      · exact f_g5
                      · exact f_g5
                · exact f_g3
              · refine oS_let fun p2 e_p2 => ?_
                refine oS_let fun g3 e => ?_
                have f_g3 : fV g0 g3 := by rw [e, e_p2]; exact fV_tr f_g2 fn227_vq
                clear e
                refine oS_dl ?_
                exact f_g3
    · exact f_g0
  · unfold dn258
    refine oS_dl ?_
    refine oS_dl ?_
    refine oS_dl ?_
    refine oS_dl ?_
    refine oS_dl ?_
    refine oS_dl ?_
    refine oS_ite (fun hb => ?_) (fun hb => ?_)
    · refine oS_let fun p0 e_p0 => ?_
      refine oS_let fun g1 e => ?_
      have f_g1 : fV g0 g1 := by rw [e, e_p0]; exact fV_tr f_g0 fn226_vq
      clear e
      refine oS_dl ?_
      exact f_g1
    · refine oS_ite (fun hb => ?_) (fun hb => ?_)
      · refine oS_let fun p0 e_p0 => ?_
        refine oS_let fun g1 e => ?_
        have f_g1 : fV g0 g1 := by rw [e, e_p0]; exact fV_tr f_g0 fn226_vq
        clear e
        refine oS_dl ?_
        exact f_g1
      · refine oS_ite (fun hb => ?_) (fun hb => ?_)
        · refine oS_let fun p0 e_p0 => ?_
          refine oS_let fun g1 e => ?_
          have f_g1 : fV g0 g1 := by rw [e, e_p0]; exact fV_tr f_g0 fn226_vq
          clear e
          refine oS_dl ?_
          exact f_g1
        · refine oS_let fun p0 e_p0 => ?_
          refine oS_let fun g1 e => ?_
          have f_g1 : fV g0 g1 := by rw [e, e_p0]; exact fV_tr f_g0 fn226_vq
          clear e
          refine oS_dl ?_
          exact f_g1
theorem fn259_vq {x : List Int} {g0 : rHp} : fV g0 (fn259 x g0).2.2 := by
  have f_g0 : fV g0 g0 := fV_refl
  show oP (fun h => fV g0 h) (fn259 x g0)
  unfold fn259
  refine oP_dl ?_
  refine oP_dl ?_
  refine oP_dl ?_
  refine oP_ite (fun hb => ?_) (fun hb => ?_)
  · refine oP_let fun p0 e_p0 => ?_
    refine oP_let fun g1 e => ?_
    have f_g1 : fV g0 g1 := by rw [e, e_p0]; exact fV_tr f_g0 fn244_vq
    clear e
    refine oP_ite (fun hb => ?_) (fun hb => ?_)
    · exact f_g1
    · exact f_g1
  · refine oP_let fun p0 e_p0 => ?_
    refine oP_let fun g1 e => ?_
    have f_g1 : fV g0 g1 := by rw [e, e_p0]; exact fV_tr f_g0 fn132_vq
    clear e
    refine oP_ite (fun hb => ?_) (fun hb => ?_)
    · refine oP_ite (fun hb => ?_) (fun hb => ?_)
      · refine oP_ite (fun hb => ?_) (fun hb => ?_)
        · refine oP_let fun p1 e_p1 => ?_
          refine oP_let fun g2 e => ?_
          have f_g2 : fV g0 g2 := by rw [e, e_p1]; exact fV_tr f_g1 fn230_vq
          clear e
          refine oP_ite (fun hb => ?_) (fun hb => ?_)
          · refine oP_let fun p2 e_p2 => ?_
            refine oP_let fun g3 e => ?_
            have f_g3 : fV g0 g3 := by rw [e, e_p2]; exact fV_tr f_g2 fn257_vq
            clear e
            refine oP_ite (fun hb => ?_) (fun hb => ?_)
            · exact f_g3
            · refine oP_ite (fun hb => ?_) (fun hb => ?_)
              · exact f_g3
              · exact f_g3
          · exact f_g2
        · refine oP_let fun p1 e_p1 => ?_
          refine oP_let fun g2 e => ?_
          have f_g2 : fV g0 g2 := by rw [e, e_p1]; exact fV_tr f_g1 fn228_vq
          clear e
          refine oP_ite (fun hb => ?_) (fun hb => ?_)
          · exact f_g2
          · refine oP_let fun p2 e_p2 => ?_
            refine oP_let fun g3 e => ?_
            have f_g3 : fV g0 g3 := by rw [e, e_p2]; exact fV_tr f_g2 fn257_vq
            clear e
            refine oP_ite (fun hb => ?_) (fun hb => ?_)
            · exact f_g3
            · refine oP_ite (fun hb => ?_) (fun hb => ?_)
              · exact f_g3
              · exact f_g3
      · refine oP_ite (fun hb => ?_) (fun hb => ?_)
        · refine oP_let fun p1 e_p1 => ?_
          refine oP_let fun g2 e => ?_
          have f_g2 : fV g0 g2 := by rw [e, e_p1]; exact fV_tr f_g1 fn229_vq
          clear e
          refine oP_ite (fun hb => ?_) (fun hb => ?_)
          · refine oP_let fun p2 e_p2 => ?_
            refine oP_let fun g3 e => ?_
            have f_g3 : fV g0 g3 := by rw [e, e_p2]; exact fV_tr f_g2 fn257_vq
            clear e
            refine oP_ite (fun hb => ?_) (fun hb => ?_)
            · exact f_g3
            · refine oP_ite (fun hb => ?_) (fun hb => ?_)
              · exact f_g3
              · exact f_g3
          · exact f_g2
        · refine oP_let fun p1 e_p1 => ?_
          refine oP_let fun g2 e => ?_
          have f_g2 : fV g0 g2 := by rw [e, e_p1]; exact fV_tr f_g1 fn231_vq
          clear e
          refine oP_ite (fun hb => ?_) (fun hb => ?_)
          · refine oP_let fun p2 e_p2 => ?_
            refine oP_let fun g3 e => ?_
            have f_g3 : fV g0 g3 := by rw [e, e_p2]; exact fV_tr f_g2 fn257_vq
            clear e
            refine oP_ite (fun hb => ?_) (fun hb => ?_)
            · exact f_g3
            · refine oP_ite (fun hb => ?_) (fun hb => ?_)
              · exact f_g3
              · exact f_g3
          · exact f_g2
    · refine oP_let fun p1 e_p1 => ?_
      refine oP_let fun g2 e => ?_
      have f_g2 : fV g0 g2 := by rw [e, e_p1]; exact fV_tr f_g1 fn258_vq
      clear e
      refine oP_ite (fun hb => ?_) (fun hb => ?_)
      · exact f_g2
      · refine oP_ite (fun hb => ?_) (fun hb => ?_)
        · exact f_g2
        · exact f_g2
theorem fn260_vq {x : List Int} {g0 : rHp} : fV g0 (fn260 x g0).2.2 := by
  have f_g0 : fV g0 g0 := fV_refl
  refine zGoo_P (I := fun s => fV g0 s.2.2) fV_zero (fun s hs => ?_) ?_
  · unfold en260
    refine oS_ite (fun hb => ?_) (fun hb => ?_)
    · refine oS_let fun g1 e => ?_
      have f_g1 : fV g0 g1 := by rw [e]; exact hs
      clear e
      refine oS_dl ?_
      refine oS_dl ?_
      refine oS_dl ?_
      refine oS_dl ?_
      refine oS_dl ?_
      refine oS_dl ?_
      refine oS_dl ?_
      refine oS_dl ?_
      refine oS_ite (fun hb => ?_) (fun hb => ?_)
      · exact f_g1
      · refine oS_ite (fun hb => ?_) (fun hb => ?_)
        · exact f_g1
        · refine oS_ite (fun hb => ?_) (fun hb => ?_)
          · exact f_g1
          · refine oS_ite (fun hb => ?_) (fun hb => ?_)
            · refine oS_let fun p1 e_p1 => ?_
              refine oS_let fun g2 e => ?_
              have f_g2 : fV g0 g2 := by rw [e, e_p1]; exact fV_tr f_g1 fn227_vq
              clear e
              refine oS_dl ?_
              exact f_g2
            · refine oS_let fun p1 e_p1 => ?_
              refine oS_let fun g2 e => ?_
              have f_g2 : fV g0 g2 := by rw [e, e_p1]; exact fV_tr f_g1 fn225_vq
              clear e
              refine oS_ite (fun hb => ?_) (fun hb => ?_)
              · refine oS_let fun p2 e_p2 => ?_
                refine oS_let fun g3 e => ?_
                have f_g3 : fV g0 g3 := by rw [e, e_p2]; exact fV_tr f_g2 fn232_vq
                clear e
                refine oS_ite (fun hb => ?_) (fun hb => ?_)
                · refine oS_ite (fun hb => ?_) (fun hb => ?_)
                  · refine oS_let fun g4 e => ?_
                    have f_g4 : fV g0 g4 := by rw [e]; exact fV_6 f_g3 (by decide)
                    clear e
                    refine oS_let fun p4 e_p4 => ?_
                    refine oS_let fun g5 e => ?_
                    have f_g5 : fV g0 g5 := by rw [e, e_p4]; exact fV_tr f_g4 fn259_vq
                    clear e
                    refine oS_ite (fun hb => ?_) (fun hb => ?_)
                    · refine oS_dl ?_
                      refine oS_let fun g6 e => ?_
                      have f_g6 : fV g0 g6 := by rw [e]; exact fV_6 f_g5 (by decide)
                      clear e
                      refine oS_let fun p6 e_p6 => ?_
                      refine oS_let fun g7 e => ?_
                      have f_g7 : fV g0 g7 := by rw [e, e_p6]; exact fV_tr f_g6 fn227_vq
                      clear e
                      refine oS_dl ?_
                      exact f_g7
                    · refine oS_ite (fun hb => ?_) (fun hb => ?_)
                      · exact f_g5
                      · exact f_g5
                  · refine oS_dl ?_
                    refine oS_let fun g4 e => ?_
                    have f_g4 : fV g0 g4 := by rw [e]; exact fV_6 f_g3 (by decide)
                    clear e
                    refine oS_let fun p4 e_p4 => ?_
                    refine oS_let fun g5 e => ?_
                    have f_g5 : fV g0 g5 := by rw [e, e_p4]; exact fV_tr f_g4 fn259_vq
                    clear e
                    refine oS_ite (fun hb => ?_) (fun hb => ?_)
                    · refine oS_dl ?_
                      refine oS_dl ?_
                      refine oS_let fun g6 e => ?_
                      have f_g6 : fV g0 g6 := by rw [e]; exact fV_6 f_g5 (by decide)
                      clear e
                      refine oS_let fun p6 e_p6 => ?_
                      refine oS_let fun g7 e => ?_
                      have f_g7 : fV g0 g7 := by rw [e, e_p6]; exact fV_tr f_g6 fn227_vq
                      clear e
                      refine oS_dl ?_
                      exact f_g7
                    · refine oS_ite (fun hb => ?_) (fun hb => ?_)
                      · exact f_g5
                      · exact f_g5
                · exact f_g3
              · refine oS_let fun p2 e_p2 => ?_
                refine oS_let fun g3 e => ?_
                have f_g3 : fV g0 g3 := by rw [e, e_p2]; exact fV_tr f_g2 fn227_vq
                clear e
                refine oS_dl ?_
                exact f_g3
    · exact f_g0
  · unfold dn260
    refine oS_dl ?_
    refine oS_dl ?_
    refine oS_dl ?_
    refine oS_dl ?_
    refine oS_dl ?_
    refine oS_dl ?_
    refine oS_ite (fun hb => ?_) (fun hb => ?_)
    · refine oS_let fun p0 e_p0 => ?_
      refine oS_let fun g1 e => ?_
      have f_g1 : fV g0 g1 := by rw [e, e_p0]; exact fV_tr f_g0 fn226_vq
      clear e
      refine oS_dl ?_
      exact f_g1
    · refine oS_ite (fun hb => ?_) (fun hb => ?_)
      · refine oS_let fun p0 e_p0 => ?_
        refine oS_let fun g1 e => ?_
        have f_g1 : fV g0 g1 := by rw [e, e_p0]; exact fV_tr f_g0 fn226_vq
        clear e
        refine oS_dl ?_
        exact f_g1
      · refine oS_ite (fun hb => ?_) (fun hb => ?_)
        · refine oS_let fun p0 e_p0 => ?_
          refine oS_let fun g1 e => ?_
          have f_g1 : fV g0 g1 := by rw [e, e_p0]; exact fV_tr f_g0 fn226_vq
          clear e
          refine oS_dl ?_
          exact f_g1
        · refine oS_let fun p0 e_p0 => ?_
          refine oS_let fun g1 e => ?_
          have f_g1 : fV g0 g1 := by rw [e, e_p0]; exact fV_tr f_g0 fn226_vq
          clear e
          refine oS_dl ?_
          exact f_g1
theorem fn261_vq {x : List Int} {g0 : rHp} : fV g0 (fn261 x g0).2.2 := by
  have f_g0 : fV g0 g0 := fV_refl
  show oP (fun h => fV g0 h) (fn261 x g0)
  unfold fn261
  refine oP_dl ?_
  refine oP_dl ?_
  refine oP_dl ?_
  refine oP_ite (fun hb => ?_) (fun hb => ?_)
  · refine oP_let fun p0 e_p0 => ?_
    refine oP_let fun g1 e => ?_
    have f_g1 : fV g0 g1 := by rw [e, e_p0]; exact fV_tr f_g0 fn244_vq
    clear e
    refine oP_ite (fun hb => ?_) (fun hb => ?_)
    · exact f_g1
    · exact f_g1
  · refine oP_let fun p0 e_p0 => ?_
    refine oP_let fun g1 e => ?_
    have f_g1 : fV g0 g1 := by rw [e, e_p0]; exact fV_tr f_g0 fn132_vq
    clear e
    refine oP_ite (fun hb => ?_) (fun hb => ?_)
    · refine oP_ite (fun hb => ?_) (fun hb => ?_)
      · refine oP_ite (fun hb => ?_) (fun hb => ?_)
        · refine oP_let fun p1 e_p1 => ?_
          refine oP_let fun g2 e => ?_
          have f_g2 : fV g0 g2 := by rw [e, e_p1]; exact fV_tr f_g1 fn230_vq
          clear e
          refine oP_ite (fun hb => ?_) (fun hb => ?_)
          · refine oP_let fun p2 e_p2 => ?_
            refine oP_let fun g3 e => ?_
            have f_g3 : fV g0 g3 := by rw [e, e_p2]; exact fV_tr f_g2 fn259_vq
            clear e
            refine oP_ite (fun hb => ?_) (fun hb => ?_)
            · exact f_g3
            · refine oP_ite (fun hb => ?_) (fun hb => ?_)
              · exact f_g3
              · exact f_g3
          · exact f_g2
        · refine oP_let fun p1 e_p1 => ?_
          refine oP_let fun g2 e => ?_
          have f_g2 : fV g0 g2 := by rw [e, e_p1]; exact fV_tr f_g1 fn228_vq
          clear e
          refine oP_ite (fun hb => ?_) (fun hb => ?_)
          · exact f_g2
          · refine oP_let fun p2 e_p2 => ?_
            refine oP_let fun g3 e => ?_
            have f_g3 : fV g0 g3 := by rw [e, e_p2]; exact fV_tr f_g2 fn259_vq
            clear e
            refine oP_ite (fun hb => ?_) (fun hb => ?_)
            · exact f_g3
            · refine oP_ite (fun hb => ?_) (fun hb => ?_)
              · exact f_g3
              · exact f_g3
      · refine oP_ite (fun hb => ?_) (fun hb => ?_)
        · refine oP_let fun p1 e_p1 => ?_
          refine oP_let fun g2 e => ?_
          have f_g2 : fV g0 g2 := by rw [e, e_p1]; exact fV_tr f_g1 fn229_vq
          clear e
          refine oP_ite (fun hb => ?_) (fun hb => ?_)
          · refine oP_let fun p2 e_p2 => ?_
            refine oP_let fun g3 e => ?_
            have f_g3 : fV g0 g3 := by rw [e, e_p2]; exact fV_tr f_g2 fn259_vq
            clear e
            refine oP_ite (fun hb => ?_) (fun hb => ?_)
            · exact f_g3
            · refine oP_ite (fun hb => ?_) (fun hb => ?_)
              · exact f_g3
              · exact f_g3
          · exact f_g2
        · refine oP_let fun p1 e_p1 => ?_
          refine oP_let fun g2 e => ?_
          have f_g2 : fV g0 g2 := by rw [e, e_p1]; exact fV_tr f_g1 fn231_vq
          clear e
          refine oP_ite (fun hb => ?_) (fun hb => ?_)
          · refine oP_let fun p2 e_p2 => ?_
            refine oP_let fun g3 e => ?_
            have f_g3 : fV g0 g3 := by rw [e, e_p2]; exact fV_tr f_g2 fn259_vq
            clear e
            refine oP_ite (fun hb => ?_) (fun hb => ?_)
            · exact f_g3
            · refine oP_ite (fun hb => ?_) (fun hb => ?_)
              · exact f_g3
              · exact f_g3
          · exact f_g2
    · refine oP_let fun p1 e_p1 => ?_
      refine oP_let fun g2 e => ?_
      have f_g2 : fV g0 g2 := by rw [e, e_p1]; exact fV_tr f_g1 fn260_vq
      clear e
      refine oP_ite (fun hb => ?_) (fun hb => ?_)
      · exact f_g2
      · refine oP_ite (fun hb => ?_) (fun hb => ?_)
        · exact f_g2
        · exact f_g2
theorem fn94_u2 {x : List Int} {g0 : rHp} : fU2 g0 (fn94 x g0).2.2 := by
  have f_g0 : fU2 g0 g0 := fU2_refl
  refine zGoo_P (I := fun s => fU2 g0 s.2.2) fU2_zero (fun s hs => ?_) ?_
  · unfold en94
    refine oS_ite (fun hb => ?_) (fun hb => ?_)
    · refine oS_let fun g1 e => ?_
      have f_g1 : fU2 g0 g1 := by rw [e]; exact hs
      clear e
      refine oS_dl ?_
      refine oS_dl ?_
      refine oS_ite (fun hb => ?_) (fun hb => ?_)
      · exact f_g1
      · refine oS_let fun g2 e => ?_
        have f_g2 : fU2 g0 g2 := by rw [e]; exact fU2_up f_g1 (by decide)
        clear e
        exact f_g2
    · exact f_g0
  · unfold dn94
    refine oS_dl ?_
    exact f_g0
theorem fn95_u2 {x : List Int} {g0 : rHp} : fU2 g0 (fn95 x g0).2.2 := by
  have f_g0 : fU2 g0 g0 := fU2_refl
  refine zGoo_P (I := fun s => fU2 g0 s.2.2) fU2_zero (fun s hs => ?_) ?_
  · unfold en95
    refine oS_ite (fun hb => ?_) (fun hb => ?_)
    · refine oS_let fun g1 e => ?_
      have f_g1 : fU2 g0 g1 := by rw [e]; exact hs
      clear e
      refine oS_dl ?_
      refine oS_dl ?_
      refine oS_ite (fun hb => ?_) (fun hb => ?_)
      · exact f_g1
      · refine oS_let fun g2 e => ?_
        have f_g2 : fU2 g0 g2 := by rw [e]; exact fU2_up f_g1 (by decide)
        clear e
        exact f_g2
    · exact f_g0
  · unfold dn95
    refine oS_dl ?_
    exact f_g0
theorem fn96_u2 {x : List Int} {g0 : rHp} : fU2 g0 (fn96 x g0).2.2 := by
  have f_g0 : fU2 g0 g0 := fU2_refl
  refine zGoo_P (I := fun s => fU2 g0 s.2.2) fU2_zero (fun s hs => ?_) ?_
  · unfold en96
    refine oS_ite (fun hb => ?_) (fun hb => ?_)
    · refine oS_let fun g1 e => ?_
      have f_g1 : fU2 g0 g1 := by rw [e]; exact hs
      clear e
      refine oS_dl ?_
      refine oS_dl ?_
      refine oS_ite (fun hb => ?_) (fun hb => ?_)
      · exact f_g1
      · refine oS_let fun g2 e => ?_
        have f_g2 : fU2 g0 g2 := by rw [e]; exact fU2_up f_g1 (by decide)
        clear e
        exact f_g2
    · exact f_g0
  · unfold dn96
    refine oS_dl ?_
    exact f_g0
theorem fn97_u2 {x : List Int} {g0 : rHp} : fU2 g0 (fn97 x g0).2.2 := by
  have f_g0 : fU2 g0 g0 := fU2_refl
  refine zGoo_P (I := fun s => fU2 g0 s.2.2) fU2_zero (fun s hs => ?_) ?_
  · unfold en97
    refine oS_ite (fun hb => ?_) (fun hb => ?_)
    · refine oS_let fun g1 e => ?_
      have f_g1 : fU2 g0 g1 := by rw [e]; exact hs
      clear e
      refine oS_dl ?_
      refine oS_dl ?_
      refine oS_ite (fun hb => ?_) (fun hb => ?_)
      · exact f_g1
      · refine oS_let fun g2 e => ?_
        have f_g2 : fU2 g0 g2 := by rw [e]; exact fU2_up f_g1 (by decide)
        clear e
        exact f_g2
    · exact f_g0
  · unfold dn97
    refine oS_dl ?_
    exact f_g0
theorem fn101_u2 {x : List Int} {g0 : rHp} : fU2 g0 (fn101 x g0).2.2 := by
  have f_g0 : fU2 g0 g0 := fU2_refl
  show oP (fun h => fU2 g0 h) (fn101 x g0)
  unfold fn101
  refine oP_dl ?_
  refine oP_dl ?_
  refine oP_ite (fun hb => ?_) (fun hb => ?_)
  · exact f_g0
  · exact f_g0
theorem fn131_u2 {x : List Int} {g0 : rHp} : fU2 g0 (fn131 x g0).2.2 := by
  have f_g0 : fU2 g0 g0 := fU2_refl
  show oP (fun h => fU2 g0 h) (fn131 x g0)
  unfold fn131
  refine oP_dl ?_
  refine oP_dl ?_
  exact f_g0
theorem fn132_u2 {x : List Int} {g0 : rHp} : fU2 g0 (fn132 x g0).2.2 := by
  have f_g0 : fU2 g0 g0 := fU2_refl
  show oP (fun h => fU2 g0 h) (fn132 x g0)
  unfold fn132
  refine oP_dl ?_
  refine oP_dl ?_
  exact f_g0
theorem fn189_u2 {x : List Int} {g0 : rHp} : fU2 g0 (fn189 x g0).2.2 := by
  have f_g0 : fU2 g0 g0 := fU2_refl
  show oP (fun h => fU2 g0 h) (fn189 x g0)
  unfold fn189
  refine oP_dl ?_
  refine oP_dl ?_
  refine oP_dl ?_
  refine oP_dl ?_
  refine oP_ite (fun hb => ?_) (fun hb => ?_)
  · exact f_g0
  · refine oP_ite (fun hb => ?_) (fun hb => ?_)
    · refine oP_let fun g1 e => ?_
      have f_g1 : fU2 g0 g1 := by rw [e]; exact fU2_up f_g0 (by decide)
      clear e
      refine oP_dl ?_
      refine oP_ite (fun hb => ?_) (fun hb => ?_)
      · refine oP_dl ?_
        refine oP_let fun g2 e => ?_
        have f_g2 : fU2 g0 g2 := by rw [e]; exact fU2_up f_g1 (by decide)
        clear e
        refine oP_let fun g3 e => ?_
        have f_g3 : fU2 g0 g3 := by rw [e]; exact fU2_up f_g2 (by decide)
        clear e
        exact f_g3
      · refine oP_let fun g2 e => ?_
        have f_g2 : fU2 g0 g2 := by rw [e]; exact fU2_up f_g1 (by decide)
        clear e
        refine oP_let fun g3 e => ?_
        have f_g3 : fU2 g0 g3 := by rw [e]; exact fU2_up f_g2 (by decide)
        clear e
        exact f_g3
    · exact f_g0
theorem fn193_u2 {x : List Int} {g0 : rHp} : fU2 g0 (fn193 x g0).2.2 := by
  have f_g0 : fU2 g0 g0 := fU2_refl
  show oP (fun h => fU2 g0 h) (fn193 x g0)
  unfold fn193
  refine oP_dl ?_
  refine oP_dl ?_
  refine oP_dl ?_
  refine oP_dl ?_
  refine oP_ite (fun hb => ?_) (fun hb => ?_)
  · exact f_g0
  · refine oP_ite (fun hb => ?_) (fun hb => ?_)
    · refine oP_let fun g1 e => ?_
      have f_g1 : fU2 g0 g1 := by rw [e]; exact fU2_up f_g0 (by decide)
      clear e
      refine oP_dl ?_
      refine oP_ite (fun hb => ?_) (fun hb => ?_)
      · refine oP_dl ?_
        refine oP_let fun g2 e => ?_
        have f_g2 : fU2 g0 g2 := by rw [e]; exact fU2_up f_g1 (by decide)
        clear e
        refine oP_let fun g3 e => ?_
        have f_g3 : fU2 g0 g3 := by rw [e]; exact fU2_up f_g2 (by decide)
        clear e
        exact f_g3
      · refine oP_let fun g2 e => ?_
        have f_g2 : fU2 g0 g2 := by rw [e]; exact fU2_up f_g1 (by decide)
        clear e
        refine oP_let fun g3 e => ?_
        have f_g3 : fU2 g0 g3 := by rw [e]; exact fU2_up f_g2 (by decide)
        clear e
        exact f_g3
    · exact f_g0
theorem fn195_u2 {x : List Int} {g0 : rHp} : fU2 g0 (fn195 x g0).2.2 := by
  have f_g0 : fU2 g0 g0 := fU2_refl
  show oP (fun h => fU2 g0 h) (fn195 x g0)
  unfold fn195
  refine oP_dl ?_
  refine oP_dl ?_
  refine oP_dl ?_
  refine oP_dl ?_
  exact f_g0
theorem fn196_u2 {x : List Int} {g0 : rHp} : fU2 g0 (fn196 x g0).2.2 := by
  have f_g0 : fU2 g0 g0 := fU2_refl
  show oP (fun h => fU2 g0 h) (fn196 x g0)
  unfold fn196
  refine oP_dl ?_
  refine oP_ite (fun hb => ?_) (fun hb => ?_)
  · exact f_g0
  · refine oP_ite (fun hb => ?_) (fun hb => ?_)
    · exact f_g0
    · refine oP_dl ?_
      exact f_g0
theorem fn197_u2 {x : List Int} {g0 : rHp} : fU2 g0 (fn197 x g0).2.2 := by
  have f_g0 : fU2 g0 g0 := fU2_refl
  show oP (fun h => fU2 g0 h) (fn197 x g0)
  unfold fn197
  refine oP_dl ?_
  refine oP_dl ?_
  refine oP_dl ?_
  refine oP_dl ?_
  refine oP_ite (fun hb => ?_) (fun hb => ?_)
  · exact f_g0
  · refine oP_ite (fun hb => ?_) (fun hb => ?_)
    · refine oP_let fun g1 e => ?_
      have f_g1 : fU2 g0 g1 := by rw [e]; exact fU2_up f_g0 (by decide)
      clear e
      refine oP_dl ?_
      refine oP_ite (fun hb => ?_) (fun hb => ?_)
      · refine oP_dl ?_
        refine oP_let fun g2 e => ?_
        have f_g2 : fU2 g0 g2 := by rw [e]; exact fU2_up f_g1 (by decide)
        clear e
        refine oP_let fun g3 e => ?_
        have f_g3 : fU2 g0 g3 := by rw [e]; exact fU2_up f_g2 (by decide)
        clear e
        exact f_g3
      · refine oP_let fun g2 e => ?_
        have f_g2 : fU2 g0 g2 := by rw [e]; exact fU2_up f_g1 (by decide)
        clear e
        refine oP_let fun g3 e => ?_
        have f_g3 : fU2 g0 g3 := by rw [e]; exact fU2_up f_g2 (by decide)
        clear e
        exact f_g3
    · exact f_g0
theorem fn203_u2 {x : List Int} {g0 : rHp} : fU2 g0 (fn203 x g0).2.2 := by
  have f_g0 : fU2 g0 g0 := fU2_refl
  refine zGoo_P (I := fun s => fU2 g0 s.2.2) fU2_zero (fun s hs => ?_) ?_
  · unfold en203
    refine oS_ite (fun hb => ?_) (fun hb => ?_)
    · refine oS_let fun g1 e => ?_
      have f_g1 : fU2 g0 g1 := by rw [e]; exact hs
      clear e
      refine oS_dl ?_
      refine oS_dl ?_
      refine oS_dl ?_
      refine oS_ite (fun hb => ?_) (fun hb => ?_)
      · exact f_g1
      · refine oS_dl ?_
        refine oS_dl ?_
        refine oS_dl ?_
        exact f_g1
    · exact f_g0
  · unfold dn203
    refine oS_dl ?_
    exact f_g0
theorem fn204_u2 {x : List Int} {g0 : rHp} : fU2 g0 (fn204 x g0).2.2 := by
  have f_g0 : fU2 g0 g0 := fU2_refl
  show oP (fun h => fU2 g0 h) (fn204 x g0)
  unfold fn204
  refine oP_dl ?_
  refine oP_dl ?_
  refine oP_dl ?_
  refine oP_dl ?_
  refine oP_dl ?_
  refine oP_dl ?_
  refine oP_dl ?_
  exact f_g0
theorem fn205_u2 {x : List Int} {g0 : rHp} : fU2 g0 (fn205 x g0).2.2 := by
  have f_g0 : fU2 g0 g0 := fU2_refl
  refine zGoo_P (I := fun s => fU2 g0 s.2.2) fU2_zero (fun s hs => ?_) ?_
  · unfold en205
    refine oS_ite (fun hb => ?_) (fun hb => ?_)
    · refine oS_let fun g1 e => ?_
      have f_g1 : fU2 g0 g1 := by rw [e]; exact hs
      clear e
      refine oS_dl ?_
      refine oS_dl ?_
      refine oS_ite (fun hb => ?_) (fun hb => ?_)
      · exact f_g1
      · refine oS_dl ?_
        refine oS_dl ?_
        refine oS_ite (fun hb => ?_) (fun hb => ?_)
        · exact f_g1
        · exact f_g1
    · exact f_g0
  · unfold dn205
    refine oS_dl ?_
    exact f_g0
theorem fn234_u2 {x : List Int} {g0 : rHp} : fU2 g0 (fn234 x g0).2.2 := by
  have f_g0 : fU2 g0 g0 := fU2_refl
  show oP (fun h => fU2 g0 h) (fn234 x g0)
  unfold fn234
  refine oP_dl ?_
  refine oP_dl ?_
  refine oP_dl ?_
  refine oP_dl ?_
  refine oP_ite (fun hb => ?_) (fun hb => ?_)
  · exact f_g0
  · exact f_g0
theorem fn186_u2 {x : List Int} {g0 : rHp} : fU2 g0 (fn186 x g0).2.2 := by
  have f_g0 : fU2 g0 g0 := fU2_refl
  show oP (fun h => fU2 g0 h) (fn186 x g0)
  unfold fn186
  refine oP_let fun p0 e_p0 => ?_
  refine oP_let fun g1 e => ?_
  have f_g1 : fU2 g0 g1 := by rw [e, e_p0]; exact fU2_tr f_g0 fn95_u2
  clear e
  exact f_g1
theorem fn190_u2 {x : List Int} {g0 : rHp} : fU2 g0 (fn190 x g0).2.2 := by
  have f_g0 : fU2 g0 g0 := fU2_refl
  show oP (fun h => fU2 g0 h) (fn190 x g0)
  unfold fn190
  refine oP_let fun p0 e_p0 => ?_
  refine oP_let fun g1 e => ?_
  have f_g1 : fU2 g0 g1 := by rw [e, e_p0]; exact fU2_tr f_g0 fn96_u2
  clear e
  exact f_g1
theorem fn194_u2 {x : List Int} {g0 : rHp} : fU2 g0 (fn194 x g0).2.2 := by
  have f_g0 : fU2 g0 g0 := fU2_refl
  show oP (fun h => fU2 g0 h) (fn194 x g0)
  unfold fn194
  refine oP_let fun p0 e_p0 => ?_
  refine oP_let fun g1 e => ?_
  have f_g1 : fU2 g0 g1 := by rw [e, e_p0]; exact fU2_tr f_g0 fn97_u2
  clear e
  exact f_g1
theorem fn222_u2 {x : List Int} {g0 : rHp} : fU2 g0 (fn222 x g0).2.2 := by
  have f_g0 : fU2 g0 g0 := fU2_refl
  refine zGoo_P (I := fun s => fU2 g0 s.2.2) fU2_zero (fun s hs => ?_) ?_
  · unfold en222
    refine oS_ite (fun hb => ?_) (fun hb => ?_)
    · refine oS_let fun g1 e => ?_
      have f_g1 : fU2 g0 g1 := by rw [e]; exact hs
      clear e
      refine oS_dl ?_
      refine oS_dl ?_
      refine oS_dl ?_
      refine oS_dl ?_
      refine oS_dl ?_
      refine oS_ite (fun hb => ?_) (fun hb => ?_)
      · exact f_g1
      · refine oS_let fun p1 e_p1 => ?_
        refine oS_let fun g2 e => ?_
        have f_g2 : fU2 g0 g2 := by rw [e, e_p1]; exact fU2_tr f_g1 fn132_u2
        clear e
        refine oS_dl ?_
        refine oS_ite (fun hb => ?_) (fun hb => ?_)
        · refine oS_ite (fun hb => ?_) (fun hb => ?_)
          · refine oS_dl ?_
            refine oS_dl ?_
            refine oS_let fun p2 e_p2 => ?_
            refine oS_let fun g3 e => ?_
            have f_g3 : fU2 g0 g3 := by rw [e, e_p2]; exact fU2_tr f_g2 fn101_u2
            clear e
            refine oS_ite (fun hb => ?_) (fun hb => ?_)
            · exact f_g3
            · exact f_g3
          · refine oS_dl ?_
            refine oS_dl ?_
            refine oS_let fun p2 e_p2 => ?_
            refine oS_let fun g3 e => ?_
            have f_g3 : fU2 g0 g3 := by rw [e, e_p2]; exact fU2_tr f_g2 fn101_u2
            clear e
            refine oS_ite (fun hb => ?_) (fun hb => ?_)
            · exact f_g3
            · exact f_g3
        · refine oS_ite (fun hb => ?_) (fun hb => ?_)
          · exact f_g2
          · refine oS_dl ?_
            refine oS_dl ?_
            refine oS_let fun p2 e_p2 => ?_
            refine oS_let fun g3 e => ?_
            have f_g3 : fU2 g0 g3 := by rw [e, e_p2]; exact fU2_tr f_g2 fn101_u2
            clear e
            refine oS_ite (fun hb => ?_) (fun hb => ?_)
            · exact f_g3
            · exact f_g3
    · exact f_g0
  · unfold dn222
    refine oS_dl ?_
    exact f_g0
theorem fn207_u2 {x : List Int} {g0 : rHp} : fU2 g0 (fn207 x g0).2.2 := by
  have f_g0 : fU2 g0 g0 := fU2_refl
  refine zGoo_P (I := fun s => fU2 g0 s.2.2) fU2_zero (fun s hs => ?_) ?_
  · unfold en207
    refine oS_ite (fun hb => ?_) (fun hb => ?_)
    · refine oS_let fun g1 e => ?_
      have f_g1 : fU2 g0 g1 := by rw [e]; exact hs
      clear e
      refine oS_dl ?_
      refine oS_dl ?_
      refine oS_dl ?_
      refine oS_dl ?_
      refine oS_dl ?_
      refine oS_ite (fun hb => ?_) (fun hb => ?_)
      · refine oS_let fun g2 e => ?_
        have f_g2 : fU2 g0 g2 := by rw [e]; exact fU2_up f_g1 (by decide)
        clear e
        exact f_g2
      · refine oS_dl ?_
        refine oS_let fun g2 e => ?_
        have f_g2 : fU2 g0 g2 := by rw [e]; exact fU2_up f_g1 (by decide)
        clear e
        refine oS_let fun p2 e_p2 => ?_
        refine oS_let fun g3 e => ?_
        have f_g3 : fU2 g0 g3 := by rw [e, e_p2]; exact fU2_tr f_g2 fn204_u2
        clear e
        refine oS_dl ?_
        refine oS_let fun p3 e_p3 => ?_
        refine oS_let fun g4 e => ?_
        have f_g4 : fU2 g0 g4 := by rw [e, e_p3]; exact fU2_tr f_g3 fn193_u2
        clear e
        exact f_g4
    · exact f_g0
  · unfold dn207
    refine oS_dl ?_
    refine oS_dl ?_
    refine oS_dl ?_
    refine oS_dl ?_
    refine oS_ite (fun hb => ?_) (fun hb => ?_)
    · refine oS_let fun g1 e => ?_
      have f_g1 : fU2 g0 g1 := by rw [e]; exact fU2_up f_g0 (by decide)
      clear e
      refine oS_let fun g2 e => ?_
      have f_g2 : fU2 g0 g2 := by rw [e]; exact fU2_up f_g1 (by decide)
      clear e
      refine oS_let fun g3 e => ?_
      have f_g3 : fU2 g0 g3 := by rw [e]; exact fU2_up f_g2 (by decide)
      clear e
      refine oS_let fun g4 e => ?_
      have f_g4 : fU2 g0 g4 := by rw [e]; exact fU2_up f_g3 (by decide)
      clear e
      refine oS_let fun p4 e_p4 => ?_
      refine oS_let fun g5 e => ?_
      have f_g5 : fU2 g0 g5 := by rw [e, e_p4]; exact fU2_tr f_g4 fn189_u2
      clear e
      refine oS_let fun p5 e_p5 => ?_
      refine oS_let fun g6 e => ?_
      have f_g6 : fU2 g0 g6 := by rw [e, e_p5]; exact fU2_tr f_g5 fn203_u2
      clear e
      refine oS_dl ?_
      refine oS_let fun p6 e_p6 => ?_
      refine oS_let fun g7 e => ?_
      have f_g7 : fU2 g0 g7 := by rw [e, e_p6]; exact fU2_tr f_g6 fn197_u2
      clear e
      exact f_g7
    · exact f_g0
theorem fn206_u2 {x : List Int} {g0 : rHp} : fU2 g0 (fn206 x g0).2.2 := by
  have f_g0 : fU2 g0 g0 := fU2_refl
  refine zGoo_P (I := fun s => fU2 g0 s.2.2) fU2_zero (fun s hs => ?_) ?_
  · unfold en206
    refine oS_ite (fun hb => ?_) (fun hb => ?_)
    · refine oS_let fun g1 e => ?_
      have f_g1 : fU2 g0 g1 := by rw [e]; exact hs
      clear e
      refine oS_dl ?_
      refine oS_dl ?_
      refine oS_dl ?_
      refine oS_ite (fun hb => ?_) (fun hb => ?_)
      · exact f_g1
      · refine oS_ite (fun hb => ?_) (fun hb => ?_)
        · exact f_g1
        · refine oS_dl ?_
          refine oS_ite (fun hb => ?_) (fun hb => ?_)
          · refine oS_let fun p1 e_p1 => ?_
            refine oS_let fun g2 e => ?_
            have f_g2 : fU2 g0 g2 := by rw [e, e_p1]; exact fU2_tr f_g1 fn196_u2
            clear e
            refine oS_dl ?_
            exact f_g2
          · refine oS_let fun p1 e_p1 => ?_
            refine oS_let fun g2 e => ?_
            have f_g2 : fU2 g0 g2 := by rw [e, e_p1]; exact fU2_tr f_g1 fn205_u2
            clear e
            refine oS_ite (fun hb => ?_) (fun hb => ?_)
            · exact f_g2
            · refine oS_let fun p2 e_p2 => ?_
              refine oS_let fun g3 e => ?_
              have f_g3 : fU2 g0 g3 := by rw [e, e_p2]; exact fU2_tr f_g2 fn196_u2
              clear e
              refine oS_dl ?_
              exact f_g3
    · exact f_g0
  · unfold dn206
    refine oS_dl ?_
    refine oS_let fun p0 e_p0 => ?_
    refine oS_let fun g1 e => ?_
    have f_g1 : fU2 g0 g1 := by rw [e, e_p0]; exact fU2_tr f_g0 fn203_u2
    clear e
    refine oS_dl ?_
    refine oS_let fun p1 e_p1 => ?_
    refine oS_let fun g2 e => ?_
    have f_g2 : fU2 g0 g2 := by rw [e, e_p1]; exact fU2_tr f_g1 fn195_u2
    clear e
    refine oS_dl ?_
    exact f_g2
theorem fn202_u2 {x : List Int} {g0 : rHp} : fU2 g0 (fn202 x g0).2.2 := by
  have f_g0 : fU2 g0 g0 := fU2_refl
  show oP (fun h => fU2 g0 h) (fn202 x g0)
  unfold fn202
  refine oP_let fun g1 e => ?_
  have f_g1 : fU2 g0 g1 := by rw [e]; exact fU2_up f_g0 (by decide)
  clear e
  refine oP_let fun p1 e_p1 => ?_
  refine oP_let fun g2 e => ?_
  have f_g2 : fU2 g0 g2 := by rw [e, e_p1]; exact fU2_tr f_g1 fn186_u2
  clear e
  refine oP_let fun p2 e_p2 => ?_
  refine oP_let fun g3 e => ?_
  have f_g3 : fU2 g0 g3 := by rw [e, e_p2]; exact fU2_tr f_g2 fn190_u2
  clear e
  refine oP_let fun p3 e_p3 => ?_
  refine oP_let fun g4 e => ?_
  have f_g4 : fU2 g0 g4 := by rw [e, e_p3]; exact fU2_tr f_g3 fn194_u2
  clear e
  exact f_g4
theorem fn223_u2 {x : List Int} {g0 : rHp} : fU2 g0 (fn223 x g0).2.2 := by
  have f_g0 : fU2 g0 g0 := fU2_refl
  refine zGoo_P (I := fun s => fU2 g0 s.2.2) fU2_zero (fun s hs => ?_) ?_
  · unfold en223
    refine oS_ite (fun hb => ?_) (fun hb => ?_)
    · refine oS_let fun g1 e => ?_
      have f_g1 : fU2 g0 g1 := by rw [e]; exact hs
      clear e
      refine oS_dl ?_
      refine oS_dl ?_
      refine oS_ite (fun hb => ?_) (fun hb => ?_)
      · refine oS_let fun g2 e => ?_
        have f_g2 : fU2 g0 g2 := by rw [e]; exact fU2_up f_g1 (by decide)
        clear e
        exact f_g2
      · refine oS_ite (fun hb => ?_) (fun hb => ?_)
        · refine oS_let fun g2 e => ?_
          have f_g2 : fU2 g0 g2 := by rw [e]; exact fU2_up f_g1 (by decide)
          clear e
          exact f_g2
        · exact f_g1
    · refine oS_ite (fun hb => ?_) (fun hb => ?_)
      · refine oS_let fun g1 e => ?_
        have f_g1 : fU2 g0 g1 := by rw [e]; exact hs
        clear e
        refine oS_dl ?_
        refine oS_dl ?_
        refine oS_dl ?_
        refine oS_dl ?_
        refine oS_dl ?_
        refine oS_ite (fun hb => ?_) (fun hb => ?_)
        · exact f_g1
        · refine oS_dl ?_
          refine oS_let fun p1 e_p1 => ?_
          refine oS_let fun g2 e => ?_
          have f_g2 : fU2 g0 g2 := by rw [e, e_p1]; exact fU2_tr f_g1 fn131_u2
          clear e
          refine oS_let fun p2 e_p2 => ?_
          refine oS_let fun g3 e => ?_
          have f_g3 : fU2 g0 g3 := by rw [e, e_p2]; exact fU2_tr f_g2 fn222_u2
          clear e
          refine oS_dl ?_
          refine oS_ite (fun hb => ?_) (fun hb => ?_)
          · refine oS_dl ?_
            refine oS_dl ?_
            refine oS_ite (fun hb => ?_) (fun hb => ?_)
            · exact f_g3
            · refine oS_let fun g4 e => ?_
              have f_g4 : fU2 g0 g4 := by rw [e]; exact fU2_up f_g3 (by decide)
              clear e
              exact f_g4
          · exact f_g3
      · refine oS_ite (fun hb => ?_) (fun hb => ?_)
        · refine oS_let fun g1 e => ?_
          have f_g1 : fU2 g0 g1 := by rw [e]; exact hs
          clear e
          refine oS_dl ?_
          refine oS_dl ?_
          refine oS_dl ?_
          refine oS_dl ?_
          refine oS_ite (fun hb => ?_) (fun hb => ?_)
          · exact f_g1
          · refine oS_dl ?_
            refine oS_let fun p1 e_p1 => ?_
            refine oS_let fun g2 e => ?_
            have f_g2 : fU2 g0 g2 := by rw [e, e_p1]; exact fU2_tr f_g1 fn101_u2
            clear e
            refine oS_ite (fun hb => ?_) (fun hb => ?_)
            · refine oS_let fun g3 e => ?_
              have f_g3 : fU2 g0 g3 := by rw [e]; exact fU2_up f_g2 (by decide)
              clear e
              exact f_g3
            · refine oS_let fun g3 e => ?_
              have f_g3 : fU2 g0 g3 := by rw [e]; exact fU2_up f_g2 (by decide)
              clear e
              exact f_g3
        · exact f_g0
  · unfold dn223
    refine oS_let fun p0 e_p0 => ?_
    refine oS_let fun g1 e => ?_
    have f_g1 : fU2 g0 g1 := by rw [e, e_p0]; exact fU2_tr f_g0 fn94_u2
    clear e
    exact f_g1
theorem fn233_u2 {x : List Int} {g0 : rHp} : fU2 g0 (fn233 x g0).2.2 := by
  have f_g0 : fU2 g0 g0 := fU2_refl
  show oP (fun h => fU2 g0 h) (fn233 x g0)
  unfold fn233
  refine oP_dl ?_
  refine oP_dl ?_
  refine oP_dl ?_
  refine oP_let fun p0 e_p0 => ?_
  refine oP_let fun g1 e => ?_
  have f_g1 : fU2 g0 g1 := by rw [e, e_p0]; exact fU2_tr f_g0 fn206_u2
  clear e
  refine oP_dl ?_
  refine oP_ite (fun hb => ?_) (fun hb => ?_)
  · refine oP_let fun p1 e_p1 => ?_
    refine oP_let fun g2 e => ?_
    have f_g2 : fU2 g0 g2 := by rw [e, e_p1]; exact fU2_tr f_g1 fn207_u2
    clear e
    refine oP_ite (fun hb => ?_) (fun hb => ?_)
    · exact f_g2
    · exact f_g2
  · exact f_g1
theorem fn236_u2 {x : List Int} {g0 : rHp} : fU2 g0 (fn236 x g0).2.2 := by
  have f_g0 : fU2 g0 g0 := fU2_refl
  show oP (fun h => fU2 g0 h) (fn236 x g0)
  unfold fn236
  refine oP_let fun p0 e_p0 => ?_
  refine oP_let fun g1 e => ?_
  have f_g1 : fU2 g0 g1 := by rw [e, e_p0]; exact fU2_tr f_g0 fn202_u2
  clear e
  refine oP_let fun g2 e => ?_
  have f_g2 : fU2 g0 g2 := by rw [e]; exact fU2_up f_g1 (by decide)
  clear e
  exact f_g2
theorem fn235_u2 {x : List Int} {g0 : rHp} : fU2 g0 (fn235 x g0).2.2 := by
  have f_g0 : fU2 g0 g0 := fU2_refl
  refine zGoo_P (I := fun s => fU2 g0 s.2.2) fU2_zero (fun s hs => ?_) ?_
  · unfold en235
    refine oS_ite (fun hb => ?_) (fun hb => ?_)
    · refine oS_let fun g1 e => ?_
      have f_g1 : fU2 g0 g1 := by rw [e]; exact hs
      clear e
      refine oS_dl ?_
      refine oS_dl ?_
      refine oS_dl ?_
      refine oS_ite (fun hb => ?_) (fun hb => ?_)
      · exact f_g1
      · refine oS_dl ?_
        refine oS_dl ?_
        refine oS_ite (fun hb => ?_) (fun hb => ?_)
        · exact f_g1
        · refine oS_let fun g2 e => ?_
          have f_g2 : fU2 g0 g2 := by rw [e]; exact fU2_cp f_g1 (by decide)
          clear e
          refine oS_let fun p2 e_p2 => ?_
          refine oS_let fun g3 e => ?_
          have f_g3 : fU2 g0 g3 := by rw [e, e_p2]; exact fU2_tr f_g2 fn233_u2
          clear e
          refine oS_ite (fun hb => ?_) (fun hb => ?_)
          · exact f_g3
          · exact f_g3
    · exact f_g0
  · unfold dn235
    refine oS_dl ?_
    exact f_g0
theorem fn263_u2 {x : List Int} {g0 : rHp} : fU2 g0 (fn263 x g0).2.2 := by
  have f_g0 : fU2 g0 g0 := fU2_refl
  refine zGoo_P (I := fun s => fU2 g0 s.2.2) fU2_zero (fun s hs => ?_) ?_
  · unfold en263
    refine oS_ite (fun hb => ?_) (fun hb => ?_)
    · refine oS_let fun g1 e => ?_
      have f_g1 : fU2 g0 g1 := by rw [e]; exact hs
      clear e
      refine oS_dl ?_
      refine oS_dl ?_
      refine oS_dl ?_
      refine oS_dl ?_
      refine oS_ite (fun hb => ?_) (fun hb => ?_)
      · exact f_g1
      · refine oS_dl ?_
        refine oS_let fun p1 e_p1 => ?_
        refine oS_let fun g2 e => ?_
        have f_g2 : fU2 g0 g2 := by rw [e, e_p1]; exact fU2_tr f_g1 fn131_u2
        clear e
        refine oS_dl ?_
        refine oS_ite (fun hb => ?_) (fun hb => ?_)
        · refine oS_ite (fun hb => ?_) (fun hb => ?_)
          · exact f_g2
          · refine oS_let fun p2 e_p2 => ?_
            refine oS_let fun g3 e => ?_
            have f_g3 : fU2 g0 g3 := by rw [e, e_p2]; exact fU2_tr f_g2 fn234_u2
            clear e
            refine oS_ite (fun hb => ?_) (fun hb => ?_)
            · refine oS_let fun p3 e_p3 => ?_
              refine oS_let fun g4 e => ?_
              have f_g4 : fL1 g0 g4 := by rw [e, e_p3]; exact fn239_st f_g3
              clear e
              refine oS_let fun g5 e => ?_
              have f_g5 : fL1 g0 g5 := by rw [e]; exact fL1_v f_g4 (fV_6 fV_refl (by decide))
              clear e
              refine oS_let fun p5 e_p5 => ?_
              refine oS_let fun g6 e => ?_
              have f_g6 : fL1 g0 g6 := by rw [e, e_p5]; exact fL1_v f_g5 fn213_vq
              clear e
              refine oS_let fun p6 e_p6 => ?_
              refine oS_let fun g7 e => ?_
              have f_g7 : fL1 g0 g7 := by rw [e, e_p6]; exact fL1_v f_g6 fn261_vq
              clear e
              refine oS_ite (fun hb => ?_) (fun hb => ?_)
              · refine oS_let fun p7 e_p7 => ?_
                refine oS_let fun g8 e => ?_
                have f_g8 : fL1 g0 g8 := by rw [e, e_p7]; exact fL1_v f_g7 fn237_vq
                clear e
                refine oS_ite (fun hb => ?_) (fun hb => ?_)
                · exact fL1_0 f_g8
                · exact fL1_0 f_g8
              · refine oS_ite (fun hb => ?_) (fun hb => ?_)
                · exact fL1_0 f_g7
                · exact fL1_0 f_g7
            · exact f_g3
        · refine oS_let fun p2 e_p2 => ?_
          refine oS_let fun g3 e => ?_
          have f_g3 : fU2 g0 g3 := by rw [e, e_p2]; exact fU2_tr f_g2 fn234_u2
          clear e
          refine oS_ite (fun hb => ?_) (fun hb => ?_)
          · refine oS_let fun p3 e_p3 => ?_
            refine oS_let fun g4 e => ?_
            have f_g4 : fL1 g0 g4 := by rw [e, e_p3]; exact fn240_st f_g3
            clear e
            refine oS_let fun g5 e => ?_
            have f_g5 : fL1 g0 g5 := by rw [e]; exact fL1_v f_g4 (fV_6 fV_refl (by decide))
            clear e
            refine oS_let fun p5 e_p5 => ?_
            refine oS_let fun g6 e => ?_
            have f_g6 : fL1 g0 g6 := by rw [e, e_p5]; exact fL1_v f_g5 fn213_vq
            clear e
            refine oS_let fun p6 e_p6 => ?_
            refine oS_let fun g7 e => ?_
            have f_g7 : fL1 g0 g7 := by rw [e, e_p6]; exact fL1_v f_g6 fn261_vq
            clear e
            refine oS_ite (fun hb => ?_) (fun hb => ?_)
            · refine oS_let fun p7 e_p7 => ?_
              refine oS_let fun g8 e => ?_
              have f_g8 : fL1 g0 g8 := by rw [e, e_p7]; exact fL1_v f_g7 fn237_vq
              clear e
              refine oS_ite (fun hb => ?_) (fun hb => ?_)
              · exact fL1_0 f_g8
              · exact fL1_0 f_g8
            · refine oS_ite (fun hb => ?_) (fun hb => ?_)
              · exact fL1_0 f_g7
              · exact fL1_0 f_g7
          · exact f_g3
    · exact f_g0
  · unfold dn263
    refine oS_dl ?_
    exact f_g0
theorem fn264_u2 {x : List Int} {g0 : rHp} : fU2 g0 (fn264 x g0).2.2 := by
  have f_g0 : fU2 g0 g0 := fU2_refl
  refine zGoo_P (I := fun s => fU2 g0 s.2.2) fU2_zero (fun s hs => ?_) ?_
  · unfold en264
    refine oS_ite (fun hb => ?_) (fun hb => ?_)
    · refine oS_let fun g1 e => ?_
      have f_g1 : fU2 g0 g1 := by rw [e]; exact hs
      clear e
      refine oS_dl ?_
      refine oS_dl ?_
      refine oS_dl ?_
      refine oS_dl ?_
      refine oS_ite (fun hb => ?_) (fun hb => ?_)
      · exact f_g1
      · refine oS_ite (fun hb => ?_) (fun hb => ?_)
        · exact f_g1
        · refine oS_let fun g2 e => ?_
          have f_g2 : fU2 g0 g2 := by rw [e]; exact fU2_up f_g1 (by decide)
          clear e
          exact f_g2
    · refine oS_ite (fun hb => ?_) (fun hb => ?_)
      · refine oS_let fun g1 e => ?_
        have f_g1 : fU2 g0 g1 := by rw [e]; exact hs
        clear e
        refine oS_dl ?_
        refine oS_dl ?_
        refine oS_dl ?_
        refine oS_dl ?_
        refine oS_dl ?_
        refine oS_dl ?_
        refine oS_ite (fun hb => ?_) (fun hb => ?_)
        · refine oS_let fun g2 e => ?_
          have f_g2 : fU2 g0 g2 := by rw [e]; exact fU2_up f_g1 (by decide)
          clear e
          refine oS_ite (fun hb => ?_) (fun hb => ?_)
          · exact f_g2
          · exact f_g2
        · refine oS_dl ?_
          refine oS_let fun p1 e_p1 => ?_
          refine oS_let fun g2 e => ?_
          have f_g2 : fU2 g0 g2 := by rw [e, e_p1]; exact fU2_tr f_g1 fn131_u2
          clear e
          refine oS_ite (fun hb => ?_) (fun hb => ?_)
          · refine oS_dl ?_
            refine oS_ite (fun hb => ?_) (fun hb => ?_)
            · exact f_g2
            · refine oS_let fun p2 e_p2 => ?_
              refine oS_let fun g3 e => ?_
              have f_g3 : fU2 g0 g3 := by rw [e, e_p2]; exact fU2_tr f_g2 fn234_u2
              clear e
              refine oS_ite (fun hb => ?_) (fun hb => ?_)
              · refine oS_let fun p3 e_p3 => ?_
                refine oS_let fun g4 e => ?_
                have f_g4 : fL1 g0 g4 := by rw [e, e_p3]; exact fn238_st f_g3
                clear e
                refine oS_let fun p4 e_p4 => ?_
                refine oS_let fun g5 e => ?_
                have f_g5 : fL1 g0 g5 := by rw [e, e_p4]; exact fL1_v f_g4 fn261_vq
                clear e
                refine oS_ite (fun hb => ?_) (fun hb => ?_)
                · exact fL1_0 f_g5
                · refine oS_ite (fun hb => ?_) (fun hb => ?_)
                  · exact fL1_0 f_g5
                  · exact fL1_0 f_g5
              · exact f_g3
          · refine oS_dl ?_
            refine oS_ite (fun hb => ?_) (fun hb => ?_)
            · exact f_g2
            · refine oS_dl ?_
              refine oS_ite (fun hb => ?_) (fun hb => ?_)
              · exact f_g2
              · refine oS_let fun p2 e_p2 => ?_
                refine oS_let fun g3 e => ?_
                have f_g3 : fU2 g0 g3 := by rw [e, e_p2]; exact fU2_tr f_g2 fn234_u2
                clear e
                refine oS_ite (fun hb => ?_) (fun hb => ?_)
                · refine oS_let fun p3 e_p3 => ?_
                  refine oS_let fun g4 e => ?_
                  have f_g4 : fL1 g0 g4 := by rw [e, e_p3]; exact fn238_st f_g3
                  clear e
                  refine oS_let fun p4 e_p4 => ?_
                  refine oS_let fun g5 e => ?_
                  have f_g5 : fL1 g0 g5 := by rw [e, e_p4]; exact fL1_v f_g4 fn261_vq
                  clear e
                  refine oS_ite (fun hb => ?_) (fun hb => ?_)
                  · exact fL1_0 f_g5
                  · refine oS_ite (fun hb => ?_) (fun hb => ?_)
                    · exact fL1_0 f_g5
                    · exact fL1_0 f_g5
                · exact f_g3
      · exact f_g0
  · unfold dn264
    refine oS_dl ?_
    refine oS_dl ?_
    refine oS_let fun g1 e => ?_
    have f_g1 : fU2 g0 g1 := by rw [e]; exact fU2_up f_g0 (by decide)
    clear e
    exact f_g1
/-- behind a run the answers are as forget leaves them -/
theorem fn265_8 {x : List Int} {g0 : rHp} : fU2 (fn163 [] g0).2.2 (fn265 x g0).2.2 := by
  refine zGoo_R (Q := fun r : zR => fU2 (fn163 [] g0).2.2 r.2.2) (I := fun s => s.1 = 0 ∧ fU2 (fn163 [] g0).2.2 s.2.2) fU2_zero (fun s hs => ?_) ?_
  · unfold en265
    refine oT_ite (fun hb => ?_) (fun hb => ?_)
    · refine oT_let fun g1 e => ?_
      have f_g1 : fU2 (fn163 [] g0).2.2 g1 := by rw [e]; exact hs.2
      clear e
      refine oT_dl ?_
      refine oT_dl ?_
      refine oT_dl ?_
      refine oT_dl ?_
      refine oT_dl ?_
      refine oT_ite (fun hb => ?_) (fun hb => ?_)
      · refine oT_let fun g2 e => ?_
        have f_g2 : fU2 (fn163 [] g0).2.2 g2 := by rw [e]; exact fU2_up f_g1 (by decide)
        clear e
        refine oT_let fun g3 e => ?_
        have f_g3 : fU2 (fn163 [] g0).2.2 g3 := by rw [e]; exact fU2_up f_g2 (by decide)
        clear e
        refine oT_let fun g4 e => ?_
        have f_g4 : fU2 (fn163 [] g0).2.2 g4 := by rw [e]; exact fU2_up f_g3 (by decide)
        clear e
        exact f_g4
      · refine oT_let fun p1 e_p1 => ?_
        refine oT_let fun g2 e => ?_
        have f_g2 : fU2 (fn163 [] g0).2.2 g2 := by rw [e, e_p1]; exact fU2_tr f_g1 fn235_u2
        clear e
        refine oT_ite (fun hb => ?_) (fun hb => ?_)
        · refine oT_let fun p2 e_p2 => ?_
          refine oT_let fun g3 e => ?_
          have f_g3 : fU2 (fn163 [] g0).2.2 g3 := by rw [e, e_p2]; exact fU2_tr f_g2 fn263_u2
          clear e
          refine oT_ite (fun hb => ?_) (fun hb => ?_)
          · refine oT_let fun p3 e_p3 => ?_
            refine oT_let fun g4 e => ?_
            have f_g4 : fU2 (fn163 [] g0).2.2 g4 := by rw [e, e_p3]; exact fU2_tr f_g3 fn264_u2
            clear e
            refine oT_ite (fun hb => ?_) (fun hb => ?_)
            · refine oT_dl ?_
              refine oT_dl ?_
              exact ⟨rfl, f_g4⟩
            · refine oT_ite (fun hb => ?_) (fun hb => ?_)
              · exact f_g4
              · exact f_g4
          · refine oT_ite (fun hb => ?_) (fun hb => ?_)
            · exact f_g3
            · exact f_g3
        · exact f_g2
    · exact absurd hs.1 hb
  · unfold dn265
    refine oT_let fun p0 e_p0 => ?_
    refine oT_let fun g1 e => ?_
    have f_g1 : fU2 (fn163 [] g0).2.2 g1 := by rw [e, e_p0]; exact fU2_refl
    clear e
    refine oT_let fun p1 e_p1 => ?_
    refine oT_let fun g2 e => ?_
    have f_g2 : fU2 (fn163 [] g0).2.2 g2 := by rw [e, e_p1]; exact fU2_tr f_g1 fn223_u2
    clear e
    refine oT_ite (fun hb => ?_) (fun hb => ?_)
    · refine oT_let fun p2 e_p2 => ?_
      refine oT_let fun g3 e => ?_
      have f_g3 : fU2 (fn163 [] g0).2.2 g3 := by rw [e, e_p2]; exact fU2_tr f_g2 fn236_u2
      clear e
      exact ⟨rfl, f_g3⟩
    · exact f_g2
noncomputable def fR (g g_q : rHp) : Prop := (∃ j, g_q 40 0 j ≠ 0) → (∀ j, j = 74 ∨ j = 75 ∨ j = 93 → g_q 15 0 j = g 15 0 j) ∧ g_q 40 = g 40
theorem fR_refl {g : rHp} : fR g g := fun _ => ⟨fun _ _ => rfl, rfl⟩
theorem fR_zero {g : rHp} : fR g (fun _ _ _ => 0) := fun ⟨_, h⟩ => absurd rfl h
theorem fR_tr {a b c : rHp} (h1 : fR a b) (h2 : fR b c) : fR a c := fun z => by
  obtain ⟨b1, b2⟩ := h2 z
  obtain ⟨a1, a2⟩ := h1 (by rw [← b2]; exact z)
  exact ⟨fun j w => (b1 j w).trans (a1 j w), b2.trans a2⟩
theorem fR_up {a b : rHp} {K : Nat} {o j v : Int} (h : fR a b) (hK : K ≠ 15 ∧ K ≠ 40) : fR a (rUp b K o j v) := by
  unfold fR
  rw [rUp_grp (Ne.symm hK.1), rUp_grp (Ne.symm hK.2)]
  exact h
theorem fR_fl {a b : rHp} {j v : Int} (h : fR a b) (hj : j ≠ 74 ∧ j ≠ 75 ∧ j ≠ 93) : fR a (rUp b 15 0 j v) := by
  unfold fR
  rw [rUp_grp (show (40 : Nat) ≠ 15 by decide)]
  intro z
  refine ⟨fun i w => ?_, (h z).2⟩
  rw [rUp_ne (fun w2 => by have := w2.2.2; omega)]
  exact (h z).1 i w
theorem fn1_rq {x : List Int} {g0 : rHp} : fR g0 (fn1 x g0).2.2 := by
  have f_g0 : fR g0 g0 := fR_refl
  show oP (fun h => fR g0 h) (fn1 x g0)
  unfold fn1
  refine oP_dl ?_
  refine oP_let fun g1 e => ?_
  have f_g1 : fR g0 g1 := by rw [e]; exact fR_fl f_g0 (by decide)
  clear e
  refine oP_ite (fun hb => ?_) (fun hb => ?_)
  · exact f_g1
  · exact f_g1
theorem fn55_rq {x : List Int} {g0 : rHp} : fR g0 (fn55 x g0).2.2 := by
  have f_g0 : fR g0 g0 := fR_refl
  show oP (fun h => fR g0 h) (fn55 x g0)
  unfold fn55
  refine oP_dl ?_
  refine oP_ite (fun hb => ?_) (fun hb => ?_)
  · exact f_g0
  · exact f_g0
theorem fn56_rq {x : List Int} {g0 : rHp} : fR g0 (fn56 x g0).2.2 := by
  have f_g0 : fR g0 g0 := fR_refl
  refine zGoo_P (I := fun s => fR g0 s.2.2) fR_zero (fun s hs => ?_) ?_
  · unfold en56
    refine oS_ite (fun hb => ?_) (fun hb => ?_)
    · refine oS_let fun g1 e => ?_
      have f_g1 : fR g0 g1 := by rw [e]; exact hs
      clear e
      refine oS_dl ?_
      refine oS_dl ?_
      exact f_g1
    · refine oS_ite (fun hb => ?_) (fun hb => ?_)
      · refine oS_let fun g1 e => ?_
        have f_g1 : fR g0 g1 := by rw [e]; exact hs
        clear e
        refine oS_dl ?_
        refine oS_dl ?_
        refine oS_dl ?_
        refine oS_dl ?_
        refine oS_dl ?_
        refine oS_ite (fun hb => ?_) (fun hb => ?_)
        · refine oS_ite (fun hb => ?_) (fun hb => ?_)
          · refine oS_dl ?_
            refine oS_ite (fun hb => ?_) (fun hb => ?_)
            · exact f_g1
            · exact f_g1
          · exact f_g1
        · refine oS_ite (fun hb => ?_) (fun hb => ?_)
          · refine oS_dl ?_
            refine oS_ite (fun hb => ?_) (fun hb => ?_)
            · exact f_g1
            · exact f_g1
          · refine oS_dl ?_
            refine oS_dl ?_
            refine oS_ite (fun hb => ?_) (fun hb => ?_)
            · exact f_g1
            · exact f_g1
      · exact f_g0
  · unfold dn56
    refine oS_dl ?_
    refine oS_dl ?_
    refine oS_ite (fun hb => ?_) (fun hb => ?_)
    · exact f_g0
    · exact f_g0
theorem fn58_rq {x : List Int} {g0 : rHp} : fR g0 (fn58 x g0).2.2 := by
  have f_g0 : fR g0 g0 := fR_refl
  show oP (fun h => fR g0 h) (fn58 x g0)
  unfold fn58
  refine oP_dl ?_
  refine oP_dl ?_
  refine oP_ite (fun hb => ?_) (fun hb => ?_)
  · refine oP_dl ?_
    exact f_g0
  · refine oP_dl ?_
    refine oP_dl ?_
    exact f_g0
theorem fn59_rq {x : List Int} {g0 : rHp} : fR g0 (fn59 x g0).2.2 := by
  have f_g0 : fR g0 g0 := fR_refl
  show oP (fun h => fR g0 h) (fn59 x g0)
  unfold fn59
  refine oP_dl ?_
  refine oP_dl ?_
  refine oP_dl ?_
  refine oP_ite (fun hb => ?_) (fun hb => ?_)
  · exact f_g0
  · refine oP_ite (fun hb => ?_) (fun hb => ?_)
    · exact f_g0
    · exact f_g0
theorem fn60_rq {x : List Int} {g0 : rHp} : fR g0 (fn60 x g0).2.2 := by
  have f_g0 : fR g0 g0 := fR_refl
  refine zGoo_P (I := fun s => fR g0 s.2.2) fR_zero (fun s hs => ?_) ?_
  · unfold en60
    refine oS_ite (fun hb => ?_) (fun hb => ?_)
    · refine oS_let fun g1 e => ?_
      have f_g1 : fR g0 g1 := by rw [e]; exact hs
      clear e
      refine oS_dl ?_
      refine oS_dl ?_
      refine oS_dl ?_
      refine oS_dl ?_
      refine oS_ite (fun hb => ?_) (fun hb => ?_)
      · exact f_g1
      · refine oS_dl ?_
        refine oS_dl ?_
        refine oS_ite (fun hb => ?_) (fun hb => ?_)
        · refine oS_ite (fun hb => ?_) (fun hb => ?_)
          · exact f_g1
          · refine oS_dl ?_
            refine oS_dl ?_
            refine oS_dl ?_
            refine oS_dl ?_
            refine oS_dl ?_
            refine oS_ite (fun hb => ?_) (fun hb => ?_)
            · exact f_g1
            · refine oS_dl ?_
              refine oS_ite (fun hb => ?_) (fun hb => ?_)
              · exact f_g1
              · exact f_g1
        · refine oS_dl ?_
          refine oS_ite (fun hb => ?_) (fun hb => ?_)
          · exact f_g1
          · exact f_g1
    · refine oS_ite (fun hb => ?_) (fun hb => ?_)
      · refine oS_let fun g1 e => ?_
        have f_g1 : fR g0 g1 := by rw [e]; exact hs
        clear e
        refine oS_dl ?_
        refine oS_dl ?_
        refine oS_dl ?_
        refine oS_dl ?_
        refine oS_dl ?_
        refine oS_dl ?_
        refine oS_dl ?_
        refine oS_ite (fun hb => ?_) (fun hb => ?_)
        · exact f_g1
        · refine oS_ite (fun hb => ?_) (fun hb => ?_)
          · exact f_g1
          · refine oS_dl ?_
            refine oS_ite (fun hb => ?_) (fun hb => ?_)
            · exact f_g1
            · refine oS_dl ?_
              refine oS_dl ?_
              refine oS_ite (fun hb => ?_) (fun hb => ?_)
              · exact f_g1
              · refine oS_dl ?_
                refine oS_ite (fun hb => ?_) (fun hb => ?_)
                · exact f_g1
                · exact f_g1
      · exact f_g0
  · unfold dn60
    refine oS_dl ?_
    refine oS_dl ?_
    refine oS_dl ?_
    refine oS_dl ?_
    exact f_g0
theorem fn63_rq {x : List Int} {g0 : rHp} : fR g0 (fn63 x g0).2.2 := by
  have f_g0 : fR g0 g0 := fR_refl
  refine zGoo_P (I := fun s => fR g0 s.2.2) fR_zero (fun s hs => ?_) ?_
  · unfold en63
    refine oS_ite (fun hb => ?_) (fun hb => ?_)
    · refine oS_let fun g1 e => ?_
      have f_g1 : fR g0 g1 := by rw [e]; exact hs
      clear e
      refine oS_dl ?_
      refine oS_dl ?_
      refine oS_dl ?_
      refine oS_dl ?_
      refine oS_ite (fun hb => ?_) (fun hb => ?_)
      · exact f_g1
      · refine oS_dl ?_
        refine oS_ite (fun hb => ?_) (fun hb => ?_)
        · exact f_g1
        · refine oS_dl ?_
          refine oS_dl ?_
          refine oS_let fun g2 e => ?_
          have f_g2 : fR g0 g2 := by rw [e]; exact fR_up f_g1 (by decide)
          clear e
          exact f_g2
    · exact f_g0
  · unfold dn63
    refine oS_dl ?_
    refine oS_dl ?_
    refine oS_dl ?_
    refine oS_dl ?_
    exact f_g0
theorem fn67_rq {x : List Int} {g0 : rHp} : fR g0 (fn67 x g0).2.2 := by
  have f_g0 : fR g0 g0 := fR_refl
  refine zGoo_P (I := fun s => fR g0 s.2.2) fR_zero (fun s hs => ?_) ?_
  · unfold en67
    refine oS_ite (fun hb => ?_) (fun hb => ?_)
    · refine oS_let fun g1 e => ?_
      have f_g1 : fR g0 g1 := by rw [e]; exact hs
      clear e
      refine oS_dl ?_
      refine oS_dl ?_
      refine oS_ite (fun hb => ?_) (fun hb => ?_)
      · exact f_g1
      · refine oS_dl ?_
        refine oS_dl ?_
        refine oS_ite (fun hb => ?_) (fun hb => ?_)
        · refine oS_let fun g2 e => ?_
          have f_g2 : fR g0 g2 := by rw [e]; exact fR_up f_g1 (by decide)
          clear e
          exact f_g2
        · refine oS_dl ?_
          refine oS_ite (fun hb => ?_) (fun hb => ?_)
          · refine oS_ite (fun hb => ?_) (fun hb => ?_)
            · refine oS_dl ?_
              refine oS_let fun g2 e => ?_
              have f_g2 : fR g0 g2 := by rw [e]; exact fR_up f_g1 (by decide)
              clear e
              exact f_g2
            · refine oS_dl ?_
              refine oS_dl ?_
              refine oS_let fun g2 e => ?_
              have f_g2 : fR g0 g2 := by rw [e]; exact fR_up f_g1 (by decide)
              clear e
              exact f_g2
          · refine oS_let fun g2 e => ?_
            have f_g2 : fR g0 g2 := by rw [e]; exact fR_up f_g1 (by decide)
            clear e
            exact f_g2
    · exact f_g0
  · unfold dn67
    refine oS_dl ?_
    exact f_g0
theorem fn69_rq {x : List Int} {g0 : rHp} : fR g0 (fn69 x g0).2.2 := by
  have f_g0 : fR g0 g0 := fR_refl
  refine zGoo_P (I := fun s => fR g0 s.2.2) fR_zero (fun s hs => ?_) ?_
  · unfold en69
    refine oS_ite (fun hb => ?_) (fun hb => ?_)
    · refine oS_let fun g1 e => ?_
      have f_g1 : fR g0 g1 := by rw [e]; exact hs
      clear e
      refine oS_dl ?_
      refine oS_dl ?_
      refine oS_ite (fun hb => ?_) (fun hb => ?_)
      · exact f_g1
      · refine oS_dl ?_
        refine oS_dl ?_
        refine oS_ite (fun hb => ?_) (fun hb => ?_)
        · exact f_g1
        · exact f_g1
    · exact f_g0
  · unfold dn69
    refine oS_dl ?_
    exact f_g0
theorem fn71_rq {x : List Int} {g0 : rHp} : fR g0 (fn71 x g0).2.2 := by
  have f_g0 : fR g0 g0 := fR_refl
  refine zGoo_P (I := fun s => fR g0 s.2.2) fR_zero (fun s hs => ?_) ?_
  · unfold en71
    refine oS_ite (fun hb => ?_) (fun hb => ?_)
    · refine oS_let fun g1 e => ?_
      have f_g1 : fR g0 g1 := by rw [e]; exact hs
      clear e
      refine oS_dl ?_
      refine oS_dl ?_
      refine oS_dl ?_
      refine oS_dl ?_
      refine oS_ite (fun hb => ?_) (fun hb => ?_)
      · exact f_g1
      · refine oS_dl ?_
        refine oS_ite (fun hb => ?_) (fun hb => ?_)
        · exact f_g1
        · exact f_g1
    · exact f_g0
  · unfold dn71
    refine oS_dl ?_
    exact f_g0
theorem fn77_rq {x : List Int} {g0 : rHp} : fR g0 (fn77 x g0).2.2 := by
  have f_g0 : fR g0 g0 := fR_refl
  refine zGoo_P (I := fun s => fR g0 s.2.2) fR_zero (fun s hs => ?_) ?_
  · unfold en77
    refine oS_ite (fun hb => ?_) (fun hb => ?_)
    · refine oS_let fun g1 e => ?_
      have f_g1 : fR g0 g1 := by rw [e]; exact hs
      clear e
      refine oS_dl ?_
      refine oS_dl ?_
      refine oS_ite (fun hb => ?_) (fun hb => ?_)
      · exact f_g1
      · refine oS_let fun g2 e => ?_
        have f_g2 : fR g0 g2 := by rw [e]; exact fR_up f_g1 (by decide)
        clear e
        exact f_g2
    · refine oS_ite (fun hb => ?_) (fun hb => ?_)
      · refine oS_let fun g1 e => ?_
        have f_g1 : fR g0 g1 := by rw [e]; exact hs
        clear e
        refine oS_dl ?_
        refine oS_ite (fun hb => ?_) (fun hb => ?_)
        · refine oS_let fun g2 e => ?_
          have f_g2 : fR g0 g2 := by rw [e]; exact fR_fl f_g1 (by decide)
          clear e
          exact f_g2
        · exact f_g1
      · refine oS_ite (fun hb => ?_) (fun hb => ?_)
        · refine oS_let fun g1 e => ?_
          have f_g1 : fR g0 g1 := by rw [e]; exact hs
          clear e
          refine oS_dl ?_
          refine oS_dl ?_
          refine oS_dl ?_
          refine oS_ite (fun hb => ?_) (fun hb => ?_)
          · exact f_g1
          · refine oS_dl ?_
            refine oS_dl ?_
            exact f_g1
        · refine oS_ite (fun hb => ?_) (fun hb => ?_)
          · refine oS_let fun g1 e => ?_
            have f_g1 : fR g0 g1 := by rw [e]; exact hs
            clear e
            refine oS_dl ?_
            refine oS_dl ?_
            refine oS_dl ?_
            refine oS_dl ?_
            refine oS_dl ?_
            refine oS_dl ?_
            refine oS_dl ?_
            refine oS_dl ?_
            refine oS_dl ?_
            refine oS_dl ?_
            refine oS_dl ?_
            refine oS_dl ?_
            refine oS_dl ?_
            refine oS_dl ?_
            refine oS_dl ?_
            refine oS_dl ?_
            refine oS_dl ?_
            refine oS_dl ?_
            refine oS_dl ?_
            refine oS_dl ?_
            refine oS_dl ?_
            refine oS_dl ?_
            refine oS_dl ?_
            refine oS_dl ?_
            refine oS_dl ?_
            refine oS_ite (fun hb => ?_) (fun hb => ?_)
            · refine oS_ite (fun hb => ?_) (fun hb => ?_)
              · refine oS_dl ?_
                refine oS_ite (fun hb => ?_) (fun hb => ?_)
                · refine oS_ite (fun hb => ?_) (fun hb => ?_)
                  · exact f_g1
                  · refine oS_let fun g2 e => ?_
                    have f_g2 : fR g0 g2 := by rw [e]; exact fR_up f_g1 (by decide)
                    clear e
                    exact f_g2
                · refine oS_ite (fun hb => ?_) (fun hb => ?_)
                  · refine oS_ite (fun hb => ?_) (fun hb => ?_)
                    · exact f_g1
                    · refine oS_let fun g2 e => ?_
                      have f_g2 : fR g0 g2 := by rw [e]; exact fR_up f_g1 (by decide)
                      clear e
                      exact f_g2
                  · refine oS_ite (fun hb => ?_) (fun hb => ?_)
                    · refine oS_ite (fun hb => ?_) (fun hb => ?_)
                      · exact f_g1
                      · refine oS_let fun g2 e => ?_
                        have f_g2 : fR g0 g2 := by rw [e]; exact fR_up f_g1 (by decide)
                        clear e
                        exact f_g2
                    · refine oS_ite (fun hb => ?_) (fun hb => ?_)
                      · refine oS_ite (fun hb => ?_) (fun hb => ?_)
                        · exact f_g1
                        · refine oS_let fun g2 e => ?_
                          have f_g2 : fR g0 g2 := by rw [e]; exact fR_up f_g1 (by decide)
                          clear e
                          exact f_g2
                      · refine oS_ite (fun hb => ?_) (fun hb => ?_)
                        · refine oS_ite (fun hb => ?_) (fun hb => ?_)
                          · exact f_g1
                          · refine oS_let fun g2 e => ?_
                            have f_g2 : fR g0 g2 := by rw [e]; exact fR_up f_g1 (by decide)
                            clear e
                            exact f_g2
                        · refine oS_ite (fun hb => ?_) (fun hb => ?_)
                          · refine oS_ite (fun hb => ?_) (fun hb => ?_)
                            · exact f_g1
                            · refine oS_let fun g2 e => ?_
                              have f_g2 : fR g0 g2 := by rw [e]; exact fR_up f_g1 (by decide)
                              clear e
                              exact f_g2
                          · refine oS_ite (fun hb => ?_) (fun hb => ?_)
                            · refine oS_ite (fun hb => ?_) (fun hb => ?_)
                              · exact f_g1
                              · refine oS_let fun g2 e => ?_
                                have f_g2 : fR g0 g2 := by rw [e]; exact fR_up f_g1 (by decide)
                                clear e
                                exact f_g2
                            · refine oS_ite (fun hb => ?_) (fun hb => ?_)
                              · refine oS_ite (fun hb => ?_) (fun hb => ?_)
                                · exact f_g1
                                · refine oS_let fun g2 e => ?_
                                  have f_g2 : fR g0 g2 := by rw [e]; exact fR_up f_g1 (by decide)
                                  clear e
                                  exact f_g2
                              · refine oS_ite (fun hb => ?_) (fun hb => ?_)
                                · refine oS_ite (fun hb => ?_) (fun hb => ?_)
                                  · exact f_g1
                                  · refine oS_let fun g2 e => ?_
                                    have f_g2 : fR g0 g2 := by rw [e]; exact fR_up f_g1 (by decide)
                                    clear e
                                    exact f_g2
                                · refine oS_ite (fun hb => ?_) (fun hb => ?_)
                                  · refine oS_ite (fun hb => ?_) (fun hb => ?_)
                                    · exact f_g1
                                    · refine oS_let fun g2 e => ?_
                                      have f_g2 : fR g0 g2 := by rw [e]; exact fR_up f_g1 (by decide)
                                      clear e
                                      exact f_g2
                                  · refine oS_ite (fun hb => ?_) (fun hb => ?_)
                                    · refine oS_ite (fun hb => ?_) (fun hb => ?_)
                                      · exact f_g1
                                      · refine oS_let fun g2 e => ?_
                                        have f_g2 : fR g0 g2 := by rw [e]; exact fR_up f_g1 (by decide)
                                        clear e
                                        exact f_g2
                                    · refine oS_ite (fun hb => ?_) (fun hb => ?_)
                                      · refine oS_ite (fun hb => ?_) (fun hb => ?_)
                                        · exact f_g1
                                        · refine oS_let fun g2 e => ?_
                                          have f_g2 : fR g0 g2 := by rw [e]; exact fR_up f_g1 (by decide)
                                          clear e
                                          exact f_g2
                                      · refine oS_ite (fun hb => ?_) (fun hb => ?_)
                                        · refine oS_ite (fun hb => ?_) (fun hb => ?_)
                                          · exact f_g1
                                          · refine oS_let fun g2 e => ?_
                                            have f_g2 : fR g0 g2 := by rw [e]; exact fR_up f_g1 (by decide)
                                            clear e
                                            exact f_g2
                                        · refine oS_ite (fun hb => ?_) (fun hb => ?_)
                                          · refine oS_ite (fun hb => ?_) (fun hb => ?_)
                                            · exact f_g1
                                            · refine oS_let fun g2 e => ?_
                                              have f_g2 : fR g0 g2 := by rw [e]; exact fR_up f_g1 (by decide)
                                              clear e
                                              exact f_g2
                                          · refine oS_ite (fun hb => ?_) (fun hb => ?_)
                                            · refine oS_ite (fun hb => ?_) (fun hb => ?_)
                                              · exact f_g1
                                              · refine oS_let fun g2 e => ?_
                                                have f_g2 : fR g0 g2 := by rw [e]; exact fR_up f_g1 (by decide)
                                                clear e
                                                exact f_g2
                                            · refine oS_ite (fun hb => ?_) (fun hb => ?_)
                                              · refine oS_ite (fun hb => ?_) (fun hb => ?_)
                                                · exact f_g1
                                                · refine oS_let fun g2 e => ?_
                                                  have f_g2 : fR g0 g2 := by rw [e]; exact fR_up f_g1 (by decide)
                                                  clear e
                                                  exact f_g2
                                              · refine oS_ite (fun hb => ?_) (fun hb => ?_)
                                                · refine oS_ite (fun hb => ?_) (fun hb => ?_)
                                                  · exact f_g1
                                                  · refine oS_let fun g2 e => ?_
                                                    have f_g2 : fR g0 g2 := by rw [e]; exact fR_up f_g1 (by decide)
                                                    clear e
                                                    exact f_g2
                                                · refine oS_ite (fun hb => ?_) (fun hb => ?_)
                                                  · refine oS_ite (fun hb => ?_) (fun hb => ?_)
                                                    · exact f_g1
                                                    · refine oS_let fun g2 e => ?_
                                                      have f_g2 : fR g0 g2 := by rw [e]; exact fR_up f_g1 (by decide)
                                                      clear e
                                                      exact f_g2
                                                  · refine oS_ite (fun hb => ?_) (fun hb => ?_)
                                                    · refine oS_ite (fun hb => ?_) (fun hb => ?_)
                                                      · exact f_g1
                                                      · refine oS_let fun g2 e => ?_
                                                        have f_g2 : fR g0 g2 := by rw [e]; exact fR_up f_g1 (by decide)
                                                        clear e
                                                        exact f_g2
                                                    · refine oS_ite (fun hb => ?_) (fun hb => ?_)
                                                      · exact f_g1
                                                      · refine oS_let fun g2 e => ?_
                                                        have f_g2 : fR g0 g2 := by rw [e]; exact fR_up f_g1 (by decide)
                                                        clear e
                                                        exact f_g2
              · exact f_g1
            · refine oS_dl ?_
              refine oS_ite (fun hb => ?_) (fun hb => ?_)
              · refine oS_dl ?_
                refine oS_dl ?_
                refine oS_ite (fun hb => ?_) (fun hb => ?_)
                · refine oS_ite (fun hb => ?_) (fun hb => ?_)
                  · exact f_g1
                  · exact f_g1
                · refine oS_dl ?_
                  refine oS_ite (fun hb => ?_) (fun hb => ?_)
                  · refine oS_ite (fun hb => ?_) (fun hb => ?_)
                    · exact f_g1
                    · exact f_g1
                  · refine oS_ite (fun hb => ?_) (fun hb => ?_)
                    · exact f_g1
                    · exact f_g1
              · exact f_g1
          · refine oS_ite (fun hb => ?_) (fun hb => ?_)
            · refine oS_let fun g1 e => ?_
              have f_g1 : fR g0 g1 := by rw [e]; exact hs
              clear e
              refine oS_dl ?_
              refine oS_dl ?_
              refine oS_dl ?_
              refine oS_dl ?_
              refine oS_ite (fun hb => ?_) (fun hb => ?_)
              · exact f_g1
              · refine oS_dl ?_
                refine oS_ite (fun hb => ?_) (fun hb => ?_)
                · exact f_g1
                · refine oS_let fun g2 e => ?_
                  have f_g2 : fR g0 g2 := by rw [e]; exact fR_fl f_g1 (by decide)
                  clear e
                  exact f_g2
            · exact f_g0
  · unfold dn77
    exact f_g0
theorem fn57_rq {x : List Int} {g0 : rHp} : fR g0 (fn57 x g0).2.2 := by
  have f_g0 : fR g0 g0 := fR_refl
  refine zGoo_P (I := fun s => fR g0 s.2.2) fR_zero (fun s hs => ?_) ?_
  · unfold en57
    refine oS_ite (fun hb => ?_) (fun hb => ?_)
    · refine oS_let fun g1 e => ?_
      have f_g1 : fR g0 g1 := by rw [e]; exact hs
      clear e
      refine oS_dl ?_
      refine oS_dl ?_
      refine oS_dl ?_
      refine oS_dl ?_
      refine oS_dl ?_
      refine oS_ite (fun hb => ?_) (fun hb => ?_)
      · exact f_g1
      · refine oS_dl ?_
        refine oS_ite (fun hb => ?_) (fun hb => ?_)
        · exact f_g1
        · refine oS_dl ?_
          refine oS_ite (fun hb => ?_) (fun hb => ?_)
          · exact f_g1
          · refine oS_dl ?_
            refine oS_ite (fun hb => ?_) (fun hb => ?_)
            · refine oS_dl ?_
              refine oS_let fun g2 e => ?_
              have f_g2 : fR g0 g2 := by rw [e]; exact fR_up f_g1 (by decide)
              clear e
              refine oS_let fun g3 e => ?_
              have f_g3 : fR g0 g3 := by rw [e]; exact fR_up f_g2 (by decide)
              clear e
              exact f_g3
            · exact f_g1
    · exact f_g0
  · unfold dn57
    refine oS_dl ?_
    refine oS_dl ?_
    refine oS_dl ?_
    refine oS_dl ?_
    refine oS_dl ?_
    refine oS_dl ?_
    refine oS_let fun p0 e_p0 => ?_
    refine oS_let fun g1 e => ?_
    have f_g1 : fR g0 g1 := by rw [e, e_p0]; exact fR_tr f_g0 fn56_rq
    clear e
    refine oS_dl ?_
    refine oS_ite (fun hb => ?_) (fun hb => ?_)
    · refine oS_ite (fun hb => ?_) (fun hb => ?_)
      · refine oS_let fun g2 e => ?_
        have f_g2 : fR g0 g2 := by rw [e]; exact fR_fl f_g1 (by decide)
        clear e
        refine oS_let fun g3 e => ?_
        have f_g3 : fR g0 g3 := by rw [e]; exact fR_up f_g2 (by decide)
        clear e
        refine oS_let fun g4 e => ?_
        have f_g4 : fR g0 g4 := by rw [e]; exact fR_up f_g3 (by decide)
        clear e
        refine oS_let fun g5 e => ?_
        have f_g5 : fR g0 g5 := by rw [e]; exact fR_up f_g4 (by decide)
        clear e
        refine oS_let fun g6 e => ?_
        have f_g6 : fR g0 g6 := by rw [e]; exact fR_up f_g5 (by decide)
        clear e
        refine oS_let fun g7 e => ?_
        have f_g7 : fR g0 g7 := by rw [e]; exact fR_up f_g6 (by decide)
        clear e
        refine oS_dl ?_
        refine oS_ite (fun hb => ?_) (fun hb => ?_)
        · refine oS_let fun g8 e => ?_
          have f_g8 : fR g0 g8 := by rw [e]; exact fR_up f_g7 (by decide)
          clear e
          refine oS_let fun g9 e => ?_
          have f_g9 : fR g0 g9 := by rw [e]; exact fR_up f_g8 (by decide)
          clear e
          refine oS_let fun g10 e => ?_
          have f_g10 : fR g0 g10 := by rw [e]; exact fR_up f_g9 (by decide)
          clear e
          refine oS_let fun g11 e => ?_
          have f_g11 : fR g0 g11 := by rw [e]; exact fR_up f_g10 (by decide)
          clear e
          refine oS_ite (fun hb => ?_) (fun hb => ?_)
          · refine oS_let fun g12 e => ?_
            have f_g12 : fR g0 g12 := by rw [e]; exact fR_up f_g11 (by decide)
            clear e
            refine oS_let fun g13 e => ?_
            have f_g13 : fR g0 g13 := by rw [e]; exact fR_up f_g12 (by decide)
            clear e
            exact f_g13
          · refine oS_let fun g12 e => ?_
            have f_g12 : fR g0 g12 := by rw [e]; exact fR_up f_g11 (by decide)
            clear e
            refine oS_let fun g13 e => ?_
            have f_g13 : fR g0 g13 := by rw [e]; exact fR_up f_g12 (by decide)
            clear e
            exact f_g13
        · refine oS_dl ?_
          refine oS_let fun g8 e => ?_
          have f_g8 : fR g0 g8 := by rw [e]; exact fR_up f_g7 (by decide)
          clear e
          refine oS_ite (fun hb => ?_) (fun hb => ?_)
          · refine oS_let fun g9 e => ?_
            have f_g9 : fR g0 g9 := by rw [e]; exact fR_up f_g8 (by decide)
            clear e
            refine oS_let fun g10 e => ?_
            have f_g10 : fR g0 g10 := by rw [e]; exact fR_up f_g9 (by decide)
            clear e
            refine oS_let fun g11 e => ?_
            have f_g11 : fR g0 g11 := by rw [e]; exact fR_up f_g10 (by decide)
            clear e
            refine oS_ite (fun hb => ?_) (fun hb => ?_)
            · refine oS_let fun g12 e => ?_
              have f_g12 : fR g0 g12 := by rw [e]; exact fR_up f_g11 (by decide)
              clear e
              refine oS_let fun g13 e => ?_
              have f_g13 : fR g0 g13 := by rw [e]; exact fR_up f_g12 (by decide)
              clear e
              exact f_g13
            · refine oS_let fun g12 e => ?_
              have f_g12 : fR g0 g12 := by rw [e]; exact fR_up f_g11 (by decide)
              clear e
              refine oS_let fun g13 e => ?_
              have f_g13 : fR g0 g13 := by rw [e]; exact fR_up f_g12 (by decide)
              clear e
              exact f_g13
          · refine oS_dl ?_
            refine oS_let fun g9 e => ?_
            have f_g9 : fR g0 g9 := by rw [e]; exact fR_up f_g8 (by decide)
            clear e
            refine oS_ite (fun hb => ?_) (fun hb => ?_)
            · refine oS_let fun g10 e => ?_
              have f_g10 : fR g0 g10 := by rw [e]; exact fR_up f_g9 (by decide)
              clear e
              refine oS_let fun g11 e => ?_
              have f_g11 : fR g0 g11 := by rw [e]; exact fR_up f_g10 (by decide)
              clear e
              refine oS_ite (fun hb => ?_) (fun hb => ?_)
              · refine oS_let fun g12 e => ?_
                have f_g12 : fR g0 g12 := by rw [e]; exact fR_up f_g11 (by decide)
                clear e
                refine oS_let fun g13 e => ?_
                have f_g13 : fR g0 g13 := by rw [e]; exact fR_up f_g12 (by decide)
                clear e
                exact f_g13
              · refine oS_let fun g12 e => ?_
                have f_g12 : fR g0 g12 := by rw [e]; exact fR_up f_g11 (by decide)
                clear e
                refine oS_let fun g13 e => ?_
                have f_g13 : fR g0 g13 := by rw [e]; exact fR_up f_g12 (by decide)
                clear e
                exact f_g13
            · refine oS_dl ?_
              refine oS_let fun g10 e => ?_
              have f_g10 : fR g0 g10 := by rw [e]; exact fR_up f_g9 (by decide)
              clear e
              refine oS_ite (fun hb => ?_) (fun hb => ?_)
              · refine oS_let fun g11 e => ?_
                have f_g11 : fR g0 g11 := by rw [e]; exact fR_up f_g10 (by decide)
                clear e
                refine oS_ite (fun hb => ?_) (fun hb => ?_)
                · refine oS_let fun g12 e => ?_
                  have f_g12 : fR g0 g12 := by rw [e]; exact fR_up f_g11 (by decide)
                  clear e
                  refine oS_let fun g13 e => ?_
                  have f_g13 : fR g0 g13 := by rw [e]; exact fR_up f_g12 (by decide)
                  clear e
                  exact f_g13
                · refine oS_let fun g12 e => ?_
                  have f_g12 : fR g0 g12 := by rw [e]; exact fR_up f_g11 (by decide)
                  clear e
                  refine oS_let fun g13 e => ?_
                  have f_g13 : fR g0 g13 := by rw [e]; exact fR_up f_g12 (by decide)
                  clear e
                  exact f_g13
              · refine oS_dl ?_
                refine oS_let fun g11 e => ?_
                have f_g11 : fR g0 g11 := by rw [e]; exact fR_up f_g10 (by decide)
                clear e
                refine oS_ite (fun hb => ?_) (fun hb => ?_)
                · refine oS_let fun g12 e => ?_
                  have f_g12 : fR g0 g12 := by rw [e]; exact fR_up f_g11 (by decide)
                  clear e
                  refine oS_let fun g13 e => ?_
                  have f_g13 : fR g0 g13 := by rw [e]; exact fR_up f_g12 (by decide)
                  clear e
                  exact f_g13
                · refine oS_let fun g12 e => ?_
                  have f_g12 : fR g0 g12 := by rw [e]; exact fR_up f_g11 (by decide)
                  clear e
                  refine oS_let fun g13 e => ?_
                  have f_g13 : fR g0 g13 := by rw [e]; exact fR_up f_g12 (by decide)
                  clear e
                  exact f_g13
      · refine oS_let fun g2 e => ?_
        have f_g2 : fR g0 g2 := by rw [e]; exact fR_fl f_g1 (by decide)
        clear e
        exact f_g2
    · exact f_g1
theorem fn65_rq {x : List Int} {g0 : rHp} : fR g0 (fn65 x g0).2.2 := by
  have f_g0 : fR g0 g0 := fR_refl
  show oP (fun h => fR g0 h) (fn65 x g0)
  unfold fn65
  refine oP_dl ?_
  refine oP_dl ?_
  refine oP_dl ?_
  refine oP_let fun p0 e_p0 => ?_
  refine oP_let fun g1 e => ?_
  have f_g1 : fR g0 g1 := by rw [e, e_p0]; exact fR_tr f_g0 fn58_rq
  clear e
  refine oP_let fun p1 e_p1 => ?_
  refine oP_let fun g2 e => ?_
  have f_g2 : fR g0 g2 := by rw [e, e_p1]; exact fR_tr f_g1 fn58_rq
  clear e
  refine oP_dl ?_
  refine oP_let fun p2 e_p2 => ?_
  refine oP_let fun g3 e => ?_
  have f_g3 : fR g0 g3 := by rw [e, e_p2]; exact fR_tr f_g2 fn58_rq
  clear e
  refine oP_dl ?_
  refine oP_let fun p3 e_p3 => ?_
  refine oP_let fun g4 e => ?_
  have f_g4 : fR g0 g4 := by rw [e, e_p3]; exact fR_tr f_g3 fn55_rq
  clear e
  refine oP_ite (fun hb => ?_) (fun hb => ?_)
  · refine oP_let fun p4 e_p4 => ?_
    refine oP_let fun g5 e => ?_
    have f_g5 : fR g0 g5 := by rw [e, e_p4]; exact fR_tr f_g4 fn55_rq
    clear e
    refine oP_ite (fun hb => ?_) (fun hb => ?_)
    · refine oP_ite (fun hb => ?_) (fun hb => ?_)
      · refine oP_ite (fun hb => ?_) (fun hb => ?_)
        · refine oP_dl ?_
          refine oP_ite (fun hb => ?_) (fun hb => ?_)
          · exact f_g5
          · refine oP_ite (fun hb => ?_) (fun hb => ?_)
            · refine oP_let fun g6 e => ?_
              have f_g6 : fR g0 g6 := by rw [e]; exact fR_up f_g5 (by decide)
              clear e
              exact f_g6
            · exact f_g5
        · refine oP_ite (fun hb => ?_) (fun hb => ?_)
          · exact f_g5
          · refine oP_ite (fun hb => ?_) (fun hb => ?_)
            · refine oP_let fun g6 e => ?_
              have f_g6 : fR g0 g6 := by rw [e]; exact fR_up f_g5 (by decide)
              clear e
              exact f_g6
            · exact f_g5
      · refine oP_ite (fun hb => ?_) (fun hb => ?_)
        · exact f_g5
        · refine oP_ite (fun hb => ?_) (fun hb => ?_)
          · refine oP_let fun g6 e => ?_
            have f_g6 : fR g0 g6 := by rw [e]; exact fR_up f_g5 (by decide)
            clear e
            exact f_g6
          · exact f_g5
    · exact f_g5
  · exact f_g4
theorem fn61_rq {x : List Int} {g0 : rHp} : fR g0 (fn61 x g0).2.2 := by
  have f_g0 : fR g0 g0 := fR_refl
  refine zGoo_P (I := fun s => fR g0 s.2.2) fR_zero (fun s hs => ?_) ?_
  · unfold en61
    refine oS_ite (fun hb => ?_) (fun hb => ?_)
    · refine oS_let fun g1 e => ?_
      have f_g1 : fR g0 g1 := by rw [e]; exact hs
      clear e
      refine oS_dl ?_
      refine oS_dl ?_
      refine oS_dl ?_
      refine oS_dl ?_
      refine oS_ite (fun hb => ?_) (fun hb => ?_)
      · exact f_g1
      · refine oS_dl ?_
        refine oS_ite (fun hb => ?_) (fun hb => ?_)
        · exact f_g1
        · exact f_g1
    · refine oS_ite (fun hb => ?_) (fun hb => ?_)
      · refine oS_let fun g1 e => ?_
        have f_g1 : fR g0 g1 := by rw [e]; exact hs
        clear e
        refine oS_dl ?_
        refine oS_dl ?_
        refine oS_dl ?_
        refine oS_ite (fun hb => ?_) (fun hb => ?_)
        · exact f_g1
        · refine oS_dl ?_
          refine oS_ite (fun hb => ?_) (fun hb => ?_)
          · exact f_g1
          · refine oS_dl ?_
            refine oS_let fun p1 e_p1 => ?_
            refine oS_let fun g2 e => ?_
            have f_g2 : fR g0 g2 := by rw [e, e_p1]; exact fR_tr f_g1 fn59_rq
            clear e
            refine oS_ite (fun hb => ?_) (fun hb => ?_)
            · exact f_g2
            · exact f_g2
      · exact f_g0
  · unfold dn61
    refine oS_dl ?_
    refine oS_dl ?_
    refine oS_dl ?_
    refine oS_ite (fun hb => ?_) (fun hb => ?_)
    · exact f_g0
    · exact f_g0
theorem fn64_rq {x : List Int} {g0 : rHp} : fR g0 (fn64 x g0).2.2 := by
  have f_g0 : fR g0 g0 := fR_refl
  refine zGoo_P (I := fun s => fR g0 s.2.2) fR_zero (fun s hs => ?_) ?_
  · unfold en64
    refine oS_ite (fun hb => ?_) (fun hb => ?_)
    · refine oS_let fun g1 e => ?_
      have f_g1 : fR g0 g1 := by rw [e]; exact hs
      clear e
      refine oS_dl ?_
      refine oS_dl ?_
      refine oS_dl ?_
      refine oS_ite (fun hb => ?_) (fun hb => ?_)
      · exact f_g1
      · refine oS_let fun p1 e_p1 => ?_
        refine oS_let fun g2 e => ?_
        have f_g2 : fR g0 g2 := by rw [e, e_p1]; exact fR_tr f_g1 fn60_rq
        clear e
        refine oS_ite (fun hb => ?_) (fun hb => ?_)
        · exact f_g2
        · refine oS_dl ?_
          refine oS_ite (fun hb => ?_) (fun hb => ?_)
          · exact f_g2
          · exact f_g2
    · exact f_g0
  · unfold dn64
    refine oS_dl ?_
    refine oS_dl ?_
    refine oS_ite (fun hb => ?_) (fun hb => ?_)
    · refine oS_dl ?_
      refine oS_dl ?_
      refine oS_ite (fun hb => ?_) (fun hb => ?_)
      · exact f_g0
      · exact f_g0
    · refine oS_ite (fun hb => ?_) (fun hb => ?_)
      · refine oS_let fun p0 e_p0 => ?_
        refine oS_let fun g1 e => ?_
        have f_g1 : fR g0 g1 := by rw [e, e_p0]; exact fR_tr f_g0 fn58_rq
        clear e
        refine oS_dl ?_
        refine oS_let fun p1 e_p1 => ?_
        refine oS_let fun g2 e => ?_
        have f_g2 : fR g0 g2 := by rw [e, e_p1]; exact fR_tr f_g1 fn58_rq
        clear e
        refine oS_dl ?_
        refine oS_let fun p2 e_p2 => ?_
        refine oS_let fun g3 e => ?_
        have f_g3 : fR g0 g3 := by rw [e, e_p2]; exact fR_tr f_g2 fn55_rq
        clear e
        refine oS_ite (fun hb => ?_) (fun hb => ?_)
        · refine oS_let fun p3 e_p3 => ?_
          refine oS_let fun g4 e => ?_
          have f_g4 : fR g0 g4 := by rw [e, e_p3]; exact fR_tr f_g3 fn55_rq
          clear e
          refine oS_ite (fun hb => ?_) (fun hb => ?_)
          · refine oS_ite (fun hb => ?_) (fun hb => ?_)
            · exact f_g4
            · exact f_g4
          · exact f_g4
        · exact f_g3
      · refine oS_ite (fun hb => ?_) (fun hb => ?_)
        · refine oS_let fun p0 e_p0 => ?_
          refine oS_let fun g1 e => ?_
          have f_g1 : fR g0 g1 := by rw [e, e_p0]; exact fR_tr f_g0 fn58_rq
          clear e
          refine oS_dl ?_
          refine oS_let fun p1 e_p1 => ?_
          refine oS_let fun g2 e => ?_
          have f_g2 : fR g0 g2 := by rw [e, e_p1]; exact fR_tr f_g1 fn58_rq
          clear e
          refine oS_dl ?_
          refine oS_ite (fun hb => ?_) (fun hb => ?_)
          · exact f_g2
          · exact f_g2
        · refine oS_let fun p0 e_p0 => ?_
          refine oS_let fun g1 e => ?_
          have f_g1 : fR g0 g1 := by rw [e, e_p0]; exact fR_tr f_g0 fn58_rq
          clear e
          refine oS_dl ?_
          refine oS_let fun p1 e_p1 => ?_
          refine oS_let fun g2 e => ?_
          have f_g2 : fR g0 g2 := by rw [e, e_p1]; exact fR_tr f_g1 fn58_rq
          clear e
          refine oS_dl ?_
          refine oS_ite (fun hb => ?_) (fun hb => ?_)
          · exact f_g2
          · exact f_g2
theorem fn70_rq {x : List Int} {g0 : rHp} : fR g0 (fn70 x g0).2.2 := by
  have f_g0 : fR g0 g0 := fR_refl
  refine zGoo_P (I := fun s => fR g0 s.2.2) fR_zero (fun s hs => ?_) ?_
  · unfold en70
    refine oS_ite (fun hb => ?_) (fun hb => ?_)
    · refine oS_let fun g1 e => ?_
      have f_g1 : fR g0 g1 := by rw [e]; exact hs
      clear e
      refine oS_dl ?_
      refine oS_dl ?_
      refine oS_dl ?_
      refine oS_dl ?_
      refine oS_ite (fun hb => ?_) (fun hb => ?_)
      · refine oS_ite (fun hb => ?_) (fun hb => ?_)
        · exact f_g1
        · refine oS_let fun g2 e => ?_
          have f_g2 : fR g0 g2 := by rw [e]; exact fR_fl f_g1 (by decide)
          clear e
          exact f_g2
      · refine oS_let fun p1 e_p1 => ?_
        refine oS_let fun g2 e => ?_
        have f_g2 : fR g0 g2 := by rw [e, e_p1]; exact fR_tr f_g1 fn69_rq
        clear e
        refine oS_ite (fun hb => ?_) (fun hb => ?_)
        · refine oS_ite (fun hb => ?_) (fun hb => ?_)
          · refine oS_dl ?_
            refine oS_dl ?_
            refine oS_let fun g3 e => ?_
            have f_g3 : fR g0 g3 := by rw [e]; exact fR_up f_g2 (by decide)
            clear e
            refine oS_ite (fun hb => ?_) (fun hb => ?_)
            · refine oS_dl ?_
              refine oS_dl ?_
              refine oS_let fun p3 e_p3 => ?_
              refine oS_let fun g4 e => ?_
              have f_g4 : fR g0 g4 := by rw [e, e_p3]; exact fR_tr f_g3 fn55_rq
              clear e
              refine oS_ite (fun hb => ?_) (fun hb => ?_)
              · refine oS_dl ?_
                refine oS_dl ?_
                refine oS_dl ?_
                refine oS_let fun g5 e => ?_
                have f_g5 : fR g0 g5 := by rw [e]; exact fR_up f_g4 (by decide)
                clear e
                refine oS_dl ?_
                refine oS_ite (fun hb => ?_) (fun hb => ?_)
                · refine oS_let fun g6 e => ?_
                  have f_g6 : fR g0 g6 := by rw [e]; exact fR_up f_g5 (by decide)
                  clear e
                  refine oS_let fun g7 e => ?_
                  have f_g7 : fR g0 g7 := by rw [e]; exact fR_up f_g6 (by decide)
                  clear e
                  exact f_g7
                · refine oS_ite (fun hb => ?_) (fun hb => ?_)
                  · refine oS_dl ?_
                    refine oS_ite (fun hb => ?_) (fun hb => ?_)
                    · refine oS_let fun g6 e => ?_
                      have f_g6 : fR g0 g6 := by rw [e]; exact fR_up f_g5 (by decide)
                      clear e
                      exact f_g6
                    · refine oS_let fun g6 e => ?_
                      have f_g6 : fR g0 g6 := by rw [e]; exact fR_up f_g5 (by decide)
                      clear e
                      refine oS_let fun g7 e => ?_
                      have f_g7 : fR g0 g7 := by rw [e]; exact fR_up f_g6 (by decide)
                      clear e
                      exact f_g7
                  · refine oS_dl ?_
                    refine oS_ite (fun hb => ?_) (fun hb => ?_)
                    · refine oS_let fun g6 e => ?_
                      have f_g6 : fR g0 g6 := by rw [e]; exact fR_up f_g5 (by decide)
                      clear e
                      exact f_g6
                    · refine oS_let fun g6 e => ?_
                      have f_g6 : fR g0 g6 := by rw [e]; exact fR_up f_g5 (by decide)
                      clear e
                      refine oS_let fun g7 e => ?_
                      have f_g7 : fR g0 g7 := by rw [e]; exact fR_up f_g6 (by decide)
                      clear e
                      exact f_g7
              · exact f_g4
            · exact f_g3
          · refine oS_let fun g3 e => ?_
            have f_g3 : fR g0 g3 := by rw [e]; exact fR_fl f_g2 (by decide)
            clear e
            exact f_g3
        · exact f_g2
    · refine oS_ite (fun hb => ?_) (fun hb => ?_)
      · refine oS_let fun g1 e => ?_
        have f_g1 : fR g0 g1 := by rw [e]; exact hs
        clear e
        refine oS_dl ?_
        refine oS_dl ?_
        refine oS_dl ?_
        refine oS_dl ?_
        refine oS_dl ?_
        refine oS_ite (fun hb => ?_) (fun hb => ?_)
        · refine oS_let fun g2 e => ?_
          have f_g2 : fR g0 g2 := by rw [e]; exact fR_up f_g1 (by decide)
          clear e
          refine oS_let fun g3 e => ?_
          have f_g3 : fR g0 g3 := by rw [e]; exact fR_up f_g2 (by decide)
          clear e
          refine oS_let fun g4 e => ?_
          have f_g4 : fR g0 g4 := by rw [e]; exact fR_up f_g3 (by decide)
          clear e
          refine oS_let fun g5 e => ?_
          have f_g5 : fR g0 g5 := by rw [e]; exact fR_fl f_g4 (by decide)
          clear e
          refine oS_let fun g6 e => ?_
          have f_g6 : fR g0 g6 := by rw [e]; exact fR_up f_g5 (by decide)
          clear e
          refine oS_ite (fun hb => ?_) (fun hb => ?_)
          · refine oS_dl ?_
            refine oS_dl ?_
            refine oS_let fun p6 e_p6 => ?_
            refine oS_let fun g7 e => ?_
            have f_g7 : fR g0 g7 := by rw [e, e_p6]; exact fR_tr f_g6 fn55_rq
            clear e
            refine oS_ite (fun hb => ?_) (fun hb => ?_)
            · refine oS_dl ?_
              refine oS_let fun g8 e => ?_
              have f_g8 : fR g0 g8 := by rw [e]; exact fR_up f_g7 (by decide)
              clear e
              refine oS_let fun g9 e => ?_
              have f_g9 : fR g0 g9 := by rw [e]; exact fR_up f_g8 (by decide)
              clear e
              refine oS_let fun g10 e => ?_
              have f_g10 : fR g0 g10 := by rw [e]; exact fR_up f_g9 (by decide)
              clear e
              exact f_g10
            · exact f_g7
          · exact f_g6
        · refine oS_dl ?_
          refine oS_let fun g2 e => ?_
          have f_g2 : fR g0 g2 := by rw [e]; exact fR_up f_g1 (by decide)
          clear e
          exact f_g2
      · exact f_g0
  · unfold dn70
    refine oS_dl ?_
    refine oS_let fun p0 e_p0 => ?_
    refine oS_let fun g1 e => ?_
    have f_g1 : fR g0 g1 := by rw [e, e_p0]; exact fR_tr f_g0 fn67_rq
    clear e
    exact f_g1
theorem fn68_rq {x : List Int} {g0 : rHp} : fR g0 (fn68 x g0).2.2 := by
  have f_g0 : fR g0 g0 := fR_refl
  show oP (fun h => fR g0 h) (fn68 x g0)
  unfold fn68
  refine oP_dl ?_
  refine oP_dl ?_
  refine oP_let fun p0 e_p0 => ?_
  refine oP_let fun g1 e => ?_
  have f_g1 : fR g0 g1 := by rw [e, e_p0]; exact fR_tr f_g0 fn67_rq
  clear e
  refine oP_let fun p1 e_p1 => ?_
  refine oP_let fun g2 e => ?_
  have f_g2 : fR g0 g2 := by rw [e, e_p1]; exact fR_tr f_g1 fn57_rq
  clear e
  exact f_g2
theorem fn62_rq {x : List Int} {g0 : rHp} : fR g0 (fn62 x g0).2.2 := by
  have f_g0 : fR g0 g0 := fR_refl
  refine zGoo_P (I := fun s => fR g0 s.2.2) fR_zero (fun s hs => ?_) ?_
  · unfold en62
    refine oS_ite (fun hb => ?_) (fun hb => ?_)
    · refine oS_let fun g1 e => ?_
      have f_g1 : fR g0 g1 := by rw [e]; exact hs
      clear e
      refine oS_dl ?_
      refine oS_dl ?_
      refine oS_dl ?_
      refine oS_dl ?_
      refine oS_dl ?_
      refine oS_dl ?_
      refine oS_ite (fun hb => ?_) (fun hb => ?_)
      · exact f_g1
      · refine oS_ite (fun hb => ?_) (fun hb => ?_)
        · refine oS_let fun p1 e_p1 => ?_
          refine oS_let fun g2 e => ?_
          have f_g2 : fR g0 g2 := by rw [e, e_p1]; exact fR_tr f_g1 fn60_rq
          clear e
          refine oS_ite (fun hb => ?_) (fun hb => ?_)
          · exact f_g2
          · refine oS_dl ?_
            refine oS_ite (fun hb => ?_) (fun hb => ?_)
            · exact f_g2
            · exact f_g2
        · refine oS_let fun p1 e_p1 => ?_
          refine oS_let fun g2 e => ?_
          have f_g2 : fR g0 g2 := by rw [e, e_p1]; exact fR_tr f_g1 fn59_rq
          clear e
          refine oS_ite (fun hb => ?_) (fun hb => ?_)
          · refine oS_let fun p2 e_p2 => ?_
            refine oS_let fun g3 e => ?_
            have f_g3 : fR g0 g3 := by rw [e, e_p2]; exact fR_tr f_g2 fn60_rq
            clear e
            refine oS_ite (fun hb => ?_) (fun hb => ?_)
            · exact f_g3
            · refine oS_dl ?_
              refine oS_ite (fun hb => ?_) (fun hb => ?_)
              · exact f_g3
              · exact f_g3
          · refine oS_dl ?_
            refine oS_ite (fun hb => ?_) (fun hb => ?_)
            · exact f_g2
            · exact f_g2
    · exact f_g0
  · unfold dn62
    refine oS_dl ?_
    refine oS_dl ?_
    refine oS_dl ?_
    refine oS_let fun p0 e_p0 => ?_
    refine oS_let fun g1 e => ?_
    have f_g1 : fR g0 g1 := by rw [e, e_p0]; exact fR_tr f_g0 fn61_rq
    clear e
    refine oS_ite (fun hb => ?_) (fun hb => ?_)
    · refine oS_ite (fun hb => ?_) (fun hb => ?_)
      · exact f_g1
      · exact f_g1
    · refine oS_ite (fun hb => ?_) (fun hb => ?_)
      · exact f_g1
      · exact f_g1
theorem fn72_rq {x : List Int} {g0 : rHp} : fR g0 (fn72 x g0).2.2 := by
  have f_g0 : fR g0 g0 := fR_refl
  refine zGoo_P (I := fun s => fR g0 s.2.2) fR_zero (fun s hs => ?_) ?_
  · unfold en72
    refine oS_ite (fun hb => ?_) (fun hb => ?_)
    · refine oS_let fun g1 e => ?_
      have f_g1 : fR g0 g1 := by rw [e]; exact hs
      clear e
      refine oS_dl ?_
      refine oS_dl ?_
      refine oS_dl ?_
      refine oS_dl ?_
      refine oS_dl ?_
      refine oS_ite (fun hb => ?_) (fun hb => ?_)
      · exact f_g1
      · refine oS_ite (fun hb => ?_) (fun hb => ?_)
        · refine oS_dl ?_
          refine oS_ite (fun hb => ?_) (fun hb => ?_)
          · refine oS_ite (fun hb => ?_) (fun hb => ?_)
            · refine oS_dl ?_
              refine oS_dl ?_
              refine oS_let fun p1 e_p1 => ?_
              refine oS_let fun g2 e => ?_
              have f_g2 : fR g0 g2 := by rw [e, e_p1]; exact fR_tr f_g1 fn62_rq
              clear e
              refine oS_dl ?_
              refine oS_ite (fun hb => ?_) (fun hb => ?_)
              · refine oS_let fun g3 e => ?_
                have f_g3 : fR g0 g3 := by rw [e]; exact fR_fl f_g2 (by decide)
                clear e
                refine oS_ite (fun hb => ?_) (fun hb => ?_)
                · refine oS_let fun g4 e => ?_
                  have f_g4 : fR g0 g4 := by rw [e]; exact fR_up f_g3 (by decide)
                  clear e
                  refine oS_let fun p4 e_p4 => ?_
                  refine oS_let fun g5 e => ?_
                  have f_g5 : fR g0 g5 := by rw [e, e_p4]; exact fR_tr f_g4 fn63_rq
                  clear e
                  exact f_g5
                · refine oS_let fun g4 e => ?_
                  have f_g4 : fR g0 g4 := by rw [e]; exact fR_fl f_g3 (by decide)
                  clear e
                  refine oS_let fun g5 e => ?_
                  have f_g5 : fR g0 g5 := by rw [e]; exact fR_up f_g4 (by decide)
                  clear e
                  refine oS_let fun p5 e_p5 => ?_
                  refine oS_let fun g6 e => ?_
                  have f_g6 : fR g0 g6 := by rw [e, e_p5]; exact fR_tr f_g5 fn63_rq
                  clear e
                  exact f_g6
              · exact f_g2
            · refine oS_let fun p1 e_p1 => ?_
              refine oS_let fun g2 e => ?_
              have f_g2 : fR g0 g2 := by rw [e, e_p1]; exact fR_tr f_g1 fn64_rq
              clear e
              refine oS_ite (fun hb => ?_) (fun hb => ?_)
              · exact f_g2
              · exact f_g2
          · refine oS_let fun p1 e_p1 => ?_
            refine oS_let fun g2 e => ?_
            have f_g2 : fR g0 g2 := by rw [e, e_p1]; exact fR_tr f_g1 fn65_rq
            clear e
            refine oS_ite (fun hb => ?_) (fun hb => ?_)
            · exact f_g2
            · exact f_g2
        · refine oS_let fun p1 e_p1 => ?_
          refine oS_let fun g2 e => ?_
          have f_g2 : fR g0 g2 := by rw [e, e_p1]; exact fR_tr f_g1 fn68_rq
          clear e
          exact f_g2
    · refine oS_ite (fun hb => ?_) (fun hb => ?_)
      · refine oS_let fun g1 e => ?_
        have f_g1 : fR g0 g1 := by rw [e]; exact hs
        clear e
        refine oS_dl ?_
        refine oS_dl ?_
        refine oS_dl ?_
        refine oS_dl ?_
        refine oS_ite (fun hb => ?_) (fun hb => ?_)
        · exact f_g1
        · refine oS_ite (fun hb => ?_) (fun hb => ?_)
          · exact f_g1
          · refine oS_dl ?_
            refine oS_ite (fun hb => ?_) (fun hb => ?_)
            · refine oS_ite (fun hb => ?_) (fun hb => ?_)
              · refine oS_dl ?_
                refine oS_dl ?_
                refine oS_let fun p1 e_p1 => ?_
                refine oS_let fun g2 e => ?_
                have f_g2 : fR g0 g2 := by rw [e, e_p1]; exact fR_tr f_g1 fn62_rq
                clear e
                refine oS_dl ?_
                refine oS_ite (fun hb => ?_) (fun hb => ?_)
                · refine oS_let fun g3 e => ?_
                  have f_g3 : fR g0 g3 := by rw [e]; exact fR_fl f_g2 (by decide)
                  clear e
                  refine oS_ite (fun hb => ?_) (fun hb => ?_)
                  · refine oS_let fun g4 e => ?_
                    have f_g4 : fR g0 g4 := by rw [e]; exact fR_up f_g3 (by decide)
                    clear e
                    refine oS_let fun p4 e_p4 => ?_
                    refine oS_let fun g5 e => ?_
                    have f_g5 : fR g0 g5 := by rw [e, e_p4]; exact fR_tr f_g4 fn63_rq
                    clear e
                    exact f_g5
                  · refine oS_let fun g4 e => ?_
                    have f_g4 : fR g0 g4 := by rw [e]; exact fR_fl f_g3 (by decide)
                    clear e
                    refine oS_let fun g5 e => ?_
                    have f_g5 : fR g0 g5 := by rw [e]; exact fR_up f_g4 (by decide)
                    clear e
                    refine oS_let fun p5 e_p5 => ?_
                    refine oS_let fun g6 e => ?_
                    have f_g6 : fR g0 g6 := by rw [e, e_p5]; exact fR_tr f_g5 fn63_rq
                    clear e
                    exact f_g6
                · exact f_g2
              · exact f_g1
            · exact f_g1
      · exact f_g0
  · unfold dn72
    refine oS_dl ?_
    exact f_g0
theorem fn73_rq {x : List Int} {g0 : rHp} : fR g0 (fn73 x g0).2.2 := by
  have f_g0 : fR g0 g0 := fR_refl
  refine zGoo_P (I := fun s => fR g0 s.2.2) fR_zero (fun s hs => ?_) ?_
  · unfold en73
    refine oS_ite (fun hb => ?_) (fun hb => ?_)
    · refine oS_let fun g1 e => ?_
      have f_g1 : fR g0 g1 := by rw [e]; exact hs
      clear e
      refine oS_dl ?_
      refine oS_dl ?_
      refine oS_dl ?_
      refine oS_dl ?_
      refine oS_dl ?_
      refine oS_ite (fun hb => ?_) (fun hb => ?_)
      · exact f_g1
      · refine oS_ite (fun hb => ?_) (fun hb => ?_)
        · refine oS_dl ?_
          refine oS_ite (fun hb => ?_) (fun hb => ?_)
          · refine oS_ite (fun hb => ?_) (fun hb => ?_)
            · refine oS_dl ?_
              refine oS_dl ?_
              refine oS_let fun p1 e_p1 => ?_
              refine oS_let fun g2 e => ?_
              have f_g2 : fR g0 g2 := by rw [e, e_p1]; exact fR_tr f_g1 fn62_rq
              clear e
              refine oS_dl ?_
              refine oS_ite (fun hb => ?_) (fun hb => ?_)
              · refine oS_let fun g3 e => ?_
                have f_g3 : fR g0 g3 := by rw [e]; exact fR_fl f_g2 (by decide)
                clear e
                refine oS_ite (fun hb => ?_) (fun hb => ?_)
                · refine oS_let fun g4 e => ?_
                  have f_g4 : fR g0 g4 := by rw [e]; exact fR_up f_g3 (by decide)
                  clear e
                  refine oS_let fun p4 e_p4 => ?_
                  refine oS_let fun g5 e => ?_
                  have f_g5 : fR g0 g5 := by rw [e, e_p4]; exact fR_tr f_g4 fn63_rq
                  clear e
                  exact f_g5
                · refine oS_let fun g4 e => ?_
                  have f_g4 : fR g0 g4 := by rw [e]; exact fR_fl f_g3 (by decide)
                  clear e
                  refine oS_let fun g5 e => ?_
                  have f_g5 : fR g0 g5 := by rw [e]; exact fR_up f_g4 (by decide)
                  clear e
                  refine oS_let fun p5 e_p5 => ?_
                  refine oS_let fun g6 e => ?_
                  have f_g6 : fR g0 g6 := by rw [e, e_p5]; exact fR_tr f_g5 fn63_rq
                  clear e
                  exact f_g6
              · exact f_g2
            · refine oS_let fun p1 e_p1 => ?_
              refine oS_let fun g2 e => ?_
              have f_g2 : fR g0 g2 := by rw [e, e_p1]; exact fR_tr f_g1 fn64_rq
              clear e
              refine oS_ite (fun hb => ?_) (fun hb => ?_)
              · exact f_g2
              · exact f_g2
          · refine oS_let fun p1 e_p1 => ?_
            refine oS_let fun g2 e => ?_
            have f_g2 : fR g0 g2 := by rw [e, e_p1]; exact fR_tr f_g1 fn65_rq
            clear e
            refine oS_ite (fun hb => ?_) (fun hb => ?_)
            · exact f_g2
            · exact f_g2
        · refine oS_let fun p1 e_p1 => ?_
          refine oS_let fun g2 e => ?_
          have f_g2 : fR g0 g2 := by rw [e, e_p1]; exact fR_tr f_g1 fn70_rq
          clear e
          exact f_g2
    · refine oS_ite (fun hb => ?_) (fun hb => ?_)
      · refine oS_let fun g1 e => ?_
        have f_g1 : fR g0 g1 := by rw [e]; exact hs
        clear e
        refine oS_dl ?_
        refine oS_dl ?_
        refine oS_dl ?_
        refine oS_dl ?_
        refine oS_ite (fun hb => ?_) (fun hb => ?_)
        · exact f_g1
        · refine oS_ite (fun hb => ?_) (fun hb => ?_)
          · exact f_g1
          · refine oS_dl ?_
            refine oS_ite (fun hb => ?_) (fun hb => ?_)
            · refine oS_ite (fun hb => ?_) (fun hb => ?_)
              · refine oS_dl ?_
                refine oS_dl ?_
                refine oS_let fun p1 e_p1 => ?_
                refine oS_let fun g2 e => ?_
                have f_g2 : fR g0 g2 := by rw [e, e_p1]; exact fR_tr f_g1 fn62_rq
                clear e
                refine oS_dl ?_
                refine oS_ite (fun hb => ?_) (fun hb => ?_)
                · refine oS_let fun g3 e => ?_
                  have f_g3 : fR g0 g3 := by rw [e]; exact fR_fl f_g2 (by decide)
                  clear e
                  refine oS_ite (fun hb => ?_) (fun hb => ?_)
                  · refine oS_let fun g4 e => ?_
                    have f_g4 : fR g0 g4 := by rw [e]; exact fR_up f_g3 (by decide)
                    clear e
                    refine oS_let fun p4 e_p4 => ?_
                    refine oS_let fun g5 e => ?_
                    have f_g5 : fR g0 g5 := by rw [e, e_p4]; exact fR_tr f_g4 fn63_rq
                    clear e
                    exact f_g5
                  · refine oS_let fun g4 e => ?_
                    have f_g4 : fR g0 g4 := by rw [e]; exact fR_fl f_g3 (by decide)
                    clear e
                    refine oS_let fun g5 e => ?_
                    have f_g5 : fR g0 g5 := by rw [e]; exact fR_up f_g4 (by decide)
                    clear e
                    refine oS_let fun p5 e_p5 => ?_
                    refine oS_let fun g6 e => ?_
                    have f_g6 : fR g0 g6 := by rw [e, e_p5]; exact fR_tr f_g5 fn63_rq
                    clear e
                    exact f_g6
                · exact f_g2
              · exact f_g1
            · exact f_g1
      · exact f_g0
  · unfold dn73
    refine oS_dl ?_
    exact f_g0
theorem fn75_rq {x : List Int} {g0 : rHp} : fR g0 (fn75 x g0).2.2 := by
  have f_g0 : fR g0 g0 := fR_refl
  refine zGoo_P (I := fun s => fR g0 s.2.2) fR_zero (fun s hs => ?_) ?_
  · unfold en75
    refine oS_ite (fun hb => ?_) (fun hb => ?_)
    · refine oS_let fun g1 e => ?_
      have f_g1 : fR g0 g1 := by rw [e]; exact hs
      clear e
      refine oS_dl ?_
      refine oS_dl ?_
      refine oS_dl ?_
      refine oS_dl ?_
      refine oS_dl ?_
      refine oS_dl ?_
      refine oS_ite (fun hb => ?_) (fun hb => ?_)
      · exact f_g1
      · refine oS_ite (fun hb => ?_) (fun hb => ?_)
        · exact f_g1
        · refine oS_ite (fun hb => ?_) (fun hb => ?_)
          · refine oS_ite (fun hb => ?_) (fun hb => ?_)
            · refine oS_dl ?_
              refine oS_dl ?_
              refine oS_ite (fun hb => ?_) (fun hb => ?_)
              · refine oS_dl ?_
                refine oS_let fun g2 e => ?_
                have f_g2 : fR g0 g2 := by rw [e]; exact fR_up f_g1 (by decide)
                clear e
                refine oS_dl ?_
                refine oS_let fun g3 e => ?_
                have f_g3 : fR g0 g3 := by rw [e]; exact fR_up f_g2 (by decide)
                clear e
                refine oS_dl ?_
                refine oS_let fun g4 e => ?_
                have f_g4 : fR g0 g4 := by rw [e]; exact fR_up f_g3 (by decide)
                clear e
                refine oS_dl ?_
                refine oS_let fun g5 e => ?_
                have f_g5 : fR g0 g5 := by rw [e]; exact fR_up f_g4 (by decide)
                clear e
                refine oS_let fun p5 e_p5 => ?_
                refine oS_let fun g6 e => ?_
                have f_g6 : fR g0 g6 := by rw [e, e_p5]; exact fR_tr f_g5 fn57_rq
                clear e
                exact f_g6
              · refine oS_dl ?_
                refine oS_ite (fun hb => ?_) (fun hb => ?_)
                · refine oS_dl ?_
                  refine oS_let fun g2 e => ?_
                  have f_g2 : fR g0 g2 := by rw [e]; exact fR_up f_g1 (by decide)
                  clear e
                  refine oS_ite (fun hb => ?_) (fun hb => ?_)
                  · refine oS_dl ?_
                    refine oS_let fun g3 e => ?_
                    have f_g3 : fR g0 g3 := by rw [e]; exact fR_up f_g2 (by decide)
                    clear e
                    refine oS_dl ?_
                    refine oS_let fun g4 e => ?_
                    have f_g4 : fR g0 g4 := by rw [e]; exact fR_up f_g3 (by decide)
                    clear e
                    refine oS_dl ?_
                    refine oS_let fun g5 e => ?_
                    have f_g5 : fR g0 g5 := by rw [e]; exact fR_up f_g4 (by decide)
                    clear e
                    refine oS_let fun p5 e_p5 => ?_
                    refine oS_let fun g6 e => ?_
                    have f_g6 : fR g0 g6 := by rw [e, e_p5]; exact fR_tr f_g5 fn57_rq
                    clear e
                    exact f_g6
                  · refine oS_dl ?_
                    refine oS_ite (fun hb => ?_) (fun hb => ?_)
                    · refine oS_dl ?_
                      refine oS_let fun g3 e => ?_
                      have f_g3 : fR g0 g3 := by rw [e]; exact fR_up f_g2 (by decide)
                      clear e
                      refine oS_ite (fun hb => ?_) (fun hb => ?_)
                      · refine oS_dl ?_
                        refine oS_let fun g4 e => ?_
                        have f_g4 : fR g0 g4 := by rw [e]; exact fR_up f_g3 (by decide)
                        clear e
                        refine oS_dl ?_
                        refine oS_let fun g5 e => ?_
                        have f_g5 : fR g0 g5 := by rw [e]; exact fR_up f_g4 (by decide)
                        clear e
                        refine oS_let fun p5 e_p5 => ?_
                        refine oS_let fun g6 e => ?_
                        have f_g6 : fR g0 g6 := by rw [e, e_p5]; exact fR_tr f_g5 fn57_rq
                        clear e
                        exact f_g6
                      · refine oS_dl ?_
                        refine oS_ite (fun hb => ?_) (fun hb => ?_)
                        · refine oS_dl ?_
                          refine oS_let fun g4 e => ?_
                          have f_g4 : fR g0 g4 := by rw [e]; exact fR_up f_g3 (by decide)
                          clear e
                          refine oS_ite (fun hb => ?_) (fun hb => ?_)
                          · refine oS_dl ?_
                            refine oS_let fun g5 e => ?_
                            have f_g5 : fR g0 g5 := by rw [e]; exact fR_up f_g4 (by decide)
                            clear e
                            refine oS_let fun p5 e_p5 => ?_
                            refine oS_let fun g6 e => ?_
                            have f_g6 : fR g0 g6 := by rw [e, e_p5]; exact fR_tr f_g5 fn57_rq
                            clear e
                            exact f_g6
                          · refine oS_dl ?_
                            refine oS_ite (fun hb => ?_) (fun hb => ?_)
                            · refine oS_dl ?_
                              refine oS_let fun g5 e => ?_
                              have f_g5 : fR g0 g5 := by rw [e]; exact fR_up f_g4 (by decide)
                              clear e
                              refine oS_let fun p5 e_p5 => ?_
                              refine oS_let fun g6 e => ?_
                              have f_g6 : fR g0 g6 := by rw [e, e_p5]; exact fR_tr f_g5 fn57_rq
                              clear e
                              exact f_g6
                            · refine oS_let fun g5 e => ?_
                              have f_g5 : fR g0 g5 := by rw [e]; exact fR_up f_g4 (by decide)
                              clear e
                              refine oS_let fun p5 e_p5 => ?_
                              refine oS_let fun g6 e => ?_
                              have f_g6 : fR g0 g6 := by rw [e, e_p5]; exact fR_tr f_g5 fn57_rq
                              clear e
                              exact f_g6
                        · refine oS_let fun g4 e => ?_
                          have f_g4 : fR g0 g4 := by rw [e]; exact fR_up f_g3 (by decide)
                          clear e
                          refine oS_ite (fun hb => ?_) (fun hb => ?_)
                          · refine oS_dl ?_
                            refine oS_let fun g5 e => ?_
                            have f_g5 : fR g0 g5 := by rw [e]; exact fR_up f_g4 (by decide)
                            clear e
                            refine oS_let fun p5 e_p5 => ?_
                            refine oS_let fun g6 e => ?_
                            have f_g6 : fR g0 g6 := by rw [e, e_p5]; exact fR_tr f_g5 fn57_rq
                            clear e
                            exact f_g6
                          · refine oS_dl ?_
                            refine oS_ite (fun hb => ?_) (fun hb => ?_)
                            · refine oS_dl ?_
                              refine oS_let fun g5 e => ?_
                              have f_g5 : fR g0 g5 := by rw [e]; exact fR_up f_g4 (by decide)
                              clear e
                              refine oS_let fun p5 e_p5 => ?_
                              refine oS_let fun g6 e => ?_
                              have f_g6 : fR g0 g6 := by rw [e, e_p5]; exact fR_tr f_g5 fn57_rq
                              clear e
                              exact f_g6
                            · refine oS_let fun g5 e => ?_
                              have f_g5 : fR g0 g5 := by rw [e]; exact fR_up f_g4 (by decide)
                              clear e
                              refine oS_let fun p5 e_p5 => ?_
                              refine oS_let fun g6 e => ?_
                              have f_g6 : fR g0 g6 := by rw [e, e_p5]; exact fR_tr f_g5 fn57_rq
                              clear e
                              exact f_g6
                    · refine oS_let fun g3 e => ?_
                      have f_g3 : fR g0 g3 := by rw [e]; exact fR_up f_g2 (by decide)
                      clear e
                      refine oS_ite (fun hb => ?_) (fun hb => ?_)
                      · refine oS_dl ?_
                        refine oS_let fun g4 e => ?_
                        have f_g4 : fR g0 g4 := by rw [e]; exact fR_up f_g3 (by decide)
                        clear e
                        refine oS_dl ?_
                        refine oS_let fun g5 e => ?_
                        have f_g5 : fR g0 g5 := by rw [e]; exact fR_up f_g4 (by decide)
                        clear e
                        refine oS_let fun p5 e_p5 => ?_
                        refine oS_let fun g6 e => ?_
                        have f_g6 : fR g0 g6 := by rw [e, e_p5]; exact fR_tr f_g5 fn57_rq
                        clear e
                        exact f_g6
                      · refine oS_dl ?_
                        refine oS_ite (fun hb => ?_) (fun hb => ?_)
                        · refine oS_dl ?_
                          refine oS_let fun g4 e => ?_
                          have f_g4 : fR g0 g4 := by rw [e]; exact fR_up f_g3 (by decide)
                          clear e
                          refine oS_ite (fun hb => ?_) (fun hb => ?_)
                          · refine oS_dl ?_
                            refine oS_let fun g5 e => ?_
                            have f_g5 : fR g0 g5 := by rw [e]; exact fR_up f_g4 (by decide)
                            clear e
                            refine oS_let fun p5 e_p5 => ?_
                            refine oS_let fun g6 e => ?_
                            have f_g6 : fR g0 g6 := by rw [e, e_p5]; exact fR_tr f_g5 fn57_rq
                            clear e
                            exact f_g6
                          · refine oS_dl ?_
                            refine oS_ite (fun hb => ?_) (fun hb => ?_)
                            · refine oS_dl ?_
                              refine oS_let fun g5 e => ?_
                              have f_g5 : fR g0 g5 := by rw [e]; exact fR_up f_g4 (by decide)
                              clear e
                              refine oS_let fun p5 e_p5 => ?_
                              refine oS_let fun g6 e => ?_
                              have f_g6 : fR g0 g6 := by rw [e, e_p5]; exact fR_tr f_g5 fn57_rq
                              clear e
                              exact f_g6
                            · refine oS_let fun g5 e => ?_
                              have f_g5 : fR g0 g5 := by rw [e]; exact fR_up f_g4 (by decide)
                              clear e
                              refine oS_let fun p5 e_p5 => ?_
                              refine oS_let fun g6 e => ?_
                              have f_g6 : fR g0 g6 := by rw [e, e_p5]; exact fR_tr f_g5 fn57_rq
                              clear e
                              exact f_g6
                        · refine oS_let fun g4 e => ?_
                          have f_g4 : fR g0 g4 := by rw [e]; exact fR_up f_g3 (by decide)
                          clear e
                          refine oS_ite (fun hb => ?_) (fun hb => ?_)
                          · refine oS_dl ?_
                            refine oS_let fun g5 e => ?_
                            have f_g5 : fR g0 g5 := by rw [e]; exact fR_up f_g4 (by decide)
                            clear e
                            refine oS_let fun p5 e_p5 => ?_
                            refine oS_let fun g6 e => ?_
                            have f_g6 : fR g0 g6 := by rw [e, e_p5]; exact fR_tr f_g5 fn57_rq
                            clear e
                            exact f_g6
                          · refine oS_dl ?_
                            refine oS_ite (fun hb => ?_) (fun hb => ?_)
                            · refine oS_dl ?_
                              refine oS_let fun g5 e => ?_
                              have f_g5 : fR g0 g5 := by rw [e]; exact fR_up f_g4 (by decide)
                              clear e
                              refine oS_let fun p5 e_p5 => ?_
                              refine oS_let fun g6 e => ?_
                              have f_g6 : fR g0 g6 := by rw [e, e_p5]; exact fR_tr f_g5 fn57_rq
                              clear e
                              exact f_g6
                            · refine oS_let fun g5 e => ?_
                              have f_g5 : fR g0 g5 := by rw [e]; exact fR_up f_g4 (by decide)
                              clear e
                              refine oS_let fun p5 e_p5 => ?_
                              refine oS_let fun g6 e => ?_
                              have f_g6 : fR g0 g6 := by rw [e, e_p5]; exact fR_tr f_g5 fn57_rq
                              clear e
                              exact f_g6
                · refine oS_let fun g2 e => ?_
                  have f_g2 : fR g0 g2 := by rw [e]; exact fR_up f_g1 (by decide)
                  clear e
                  refine oS_ite (fun hb => ?_) (fun hb => ?_)
                  · refine oS_dl ?_
                    refine oS_let fun g3 e => ?_
                    have f_g3 : fR g0 g3 := by rw [e]; exact fR_up f_g2 (by decide)
                    clear e
                    refine oS_dl ?_
                    refine oS_let fun g4 e => ?_
                    have f_g4 : fR g0 g4 := by rw [e]; exact fR_up f_g3 (by decide)
                    clear e
                    refine oS_dl ?_
                    refine oS_let fun g5 e => ?_
                    have f_g5 : fR g0 g5 := by rw [e]; exact fR_up f_g4 (by decide)
                    clear e
                    refine oS_let fun p5 e_p5 => ?_
                    refine oS_let fun g6 e => ?_
                    have f_g6 : fR g0 g6 := by rw [e, e_p5]; exact fR_tr f_g5 fn57_rq
                    clear e
                    exact f_g6
                  · refine oS_dl ?_
                    refine oS_ite (fun hb => ?_) (fun hb => ?_)
                    · refine oS_dl ?_
                      refine oS_let fun g3 e => ?_
                      have f_g3 : fR g0 g3 := by rw [e]; exact fR_up f_g2 (by decide)
                      clear e
                      refine oS_ite (fun hb => ?_) (fun hb => ?_)
                      · refine oS_dl ?_
                        refine oS_let fun g4 e => ?_
                        have f_g4 : fR g0 g4 := by rw [e]; exact fR_up f_g3 (by decide)
                        clear e
                        refine oS_dl ?_
                        refine oS_let fun g5 e => ?_
                        have f_g5 : fR g0 g5 := by rw [e]; exact fR_up f_g4 (by decide)
                        clear e
                        refine oS_let fun p5 e_p5 => ?_
                        refine oS_let fun g6 e => ?_
                        have f_g6 : fR g0 g6 := by rw [e, e_p5]; exact fR_tr f_g5 fn57_rq
                        clear e
                        exact f_g6
                      · refine oS_dl ?_
                        refine oS_ite (fun hb => ?_) (fun hb => ?_)
                        · refine oS_dl ?_
                          refine oS_let fun g4 e => ?_
                          have f_g4 : fR g0 g4 := by rw [e]; exact fR_up f_g3 (by decide)
                          clear e
                          refine oS_ite (fun hb => ?_) (fun hb => ?_)
                          · refine oS_dl ?_
                            refine oS_let fun g5 e => ?_
                            have f_g5 : fR g0 g5 := by rw [e]; exact fR_up f_g4 (by decide)
                            clear e
                            refine oS_let fun p5 e_p5 => ?_
                            refine oS_let fun g6 e => ?_
                            have f_g6 : fR g0 g6 := by rw [e, e_p5]; exact fR_tr f_g5 fn57_rq
                            clear e
                            exact f_g6
                          · refine oS_dl ?_
                            refine oS_ite (fun hb => ?_) (fun hb => ?_)
                            · refine oS_dl ?_
                              refine oS_let fun g5 e => ?_
                              have f_g5 : fR g0 g5 := by rw [e]; exact fR_up f_g4 (by decide)
                              clear e
                              refine oS_let fun p5 e_p5 => ?_
                              refine oS_let fun g6 e => ?_
                              have f_g6 : fR g0 g6 := by rw [e, e_p5]; exact fR_tr f_g5 fn57_rq
                              clear e
                              exact f_g6
                            · refine oS_let fun g5 e => ?_
                              have f_g5 : fR g0 g5 := by rw [e]; exact fR_up f_g4 (by decide)
                              clear e
                              refine oS_let fun p5 e_p5 => ?_
                              refine oS_let fun g6 e => ?_
                              have f_g6 : fR g0 g6 := by rw [e, e_p5]; exact fR_tr f_g5 fn57_rq
                              clear e
                              exact f_g6
                        · refine oS_let fun g4 e => ?_
                          have f_g4 : fR g0 g4 := by rw [e]; exact fR_up f_g3 (by decide)
                          clear e
                          refine oS_ite (fun hb => ?_) (fun hb => ?_)
                          · refine oS_dl ?_
                            refine oS_let fun g5 e => ?_
                            have f_g5 : fR g0 g5 := by rw [e]; exact fR_up f_g4 (by decide)
                            clear e
                            refine oS_let fun p5 e_p5 => ?_
                            refine oS_let fun g6 e => ?_
                            have f_g6 : fR g0 g6 := by rw [e, e_p5]; exact fR_tr f_g5 fn57_rq
                            clear e
                            exact f_g6
                          · refine oS_dl ?_
                            refine oS_ite (fun hb => ?_) (fun hb => ?_)
                            · refine oS_dl ?_
                              refine oS_let fun g5 e => ?_
                              have f_g5 : fR g0 g5 := by rw [e]; exact fR_up f_g4 (by decide)
                              clear e
                              refine oS_let fun p5 e_p5 => ?_
                              refine oS_let fun g6 e => ?_
                              have f_g6 : fR g0 g6 := by rw [e, e_p5]; exact fR_tr f_g5 fn57_rq
                              clear e
                              exact f_g6
                            · refine oS_let fun g5 e => ?_
                              have f_g5 : fR g0 g5 := by rw [e]; exact fR_up f_g4 (by decide)
                              clear e
                              refine oS_let fun p5 e_p5 => ?_
                              refine oS_let fun g6 e => ?_
                              have f_g6 : fR g0 g6 := by rw [e, e_p5]; exact fR_tr f_g5 fn57_rq
                              clear e
                              exact f_g6
                    · refine oS_let fun g3 e => ?_
                      have f_g3 : fR g0 g3 := by rw [e]; exact fR_up f_g2 (by decide)
                      clear e
                      refine oS_ite (fun hb => ?_) (fun hb => ?_)
                      · refine oS_dl ?_
                        refine oS_let fun g4 e => ?_
                        have f_g4 : fR g0 g4 := by rw [e]; exact fR_up f_g3 (by decide)
                        clear e
                        refine oS_dl ?_
                        refine oS_let fun g5 e => ?_
                        have f_g5 : fR g0 g5 := by rw [e]; exact fR_up f_g4 (by decide)
                        clear e
                        refine oS_let fun p5 e_p5 => ?_
                        refine oS_let fun g6 e => ?_
                        have f_g6 : fR g0 g6 := by rw [e, e_p5]; exact fR_tr f_g5 fn57_rq
                        clear e
                        exact f_g6
                      · refine oS_dl ?_
                        refine oS_ite (fun hb => ?_) (fun hb => ?_)
                        · refine oS_dl ?_
                          refine oS_let fun g4 e => ?_
                          have f_g4 : fR g0 g4 := by rw [e]; exact fR_up f_g3 (by decide)
                          clear e
                          refine oS_ite (fun hb => ?_) (fun hb => ?_)
                          · refine oS_dl ?_
                            refine oS_let fun g5 e => ?_
                            have f_g5 : fR g0 g5 := by rw [e]; exact fR_up f_g4 (by decide)
                            clear e
                            refine oS_let fun p5 e_p5 => ?_
                            refine oS_let fun g6 e => ?_
                            have f_g6 : fR g0 g6 := by rw [e, e_p5]; exact fR_tr f_g5 fn57_rq
                            clear e
                            exact f_g6
                          · refine oS_dl ?_
                            refine oS_ite (fun hb => ?_) (fun hb => ?_)
                            · refine oS_dl ?_
                              refine oS_let fun g5 e => ?_
                              have f_g5 : fR g0 g5 := by rw [e]; exact fR_up f_g4 (by decide)
                              clear e
                              refine oS_let fun p5 e_p5 => ?_
                              refine oS_let fun g6 e => ?_
                              have f_g6 : fR g0 g6 := by rw [e, e_p5]; exact fR_tr f_g5 fn57_rq
                              clear e
                              exact f_g6
                            · refine oS_let fun g5 e => ?_
                              have f_g5 : fR g0 g5 := by rw [e]; exact fR_up f_g4 (by decide)
                              clear e
                              refine oS_let fun p5 e_p5 => ?_
                              refine oS_let fun g6 e => ?_
                              have f_g6 : fR g0 g6 := by rw [e, e_p5]; exact fR_tr f_g5 fn57_rq
                              clear e
                              exact f_g6
                        · refine oS_let fun g4 e => ?_
                          have f_g4 : fR g0 g4 := by rw [e]; exact fR_up f_g3 (by decide)
                          clear e
                          refine oS_ite (fun hb => ?_) (fun hb => ?_)
                          · refine oS_dl ?_
                            refine oS_let fun g5 e => ?_
                            have f_g5 : fR g0 g5 := by rw [e]; exact fR_up f_g4 (by decide)
                            clear e
                            refine oS_let fun p5 e_p5 => ?_
                            refine oS_let fun g6 e => ?_
                            have f_g6 : fR g0 g6 := by rw [e, e_p5]; exact fR_tr f_g5 fn57_rq
                            clear e
                            exact f_g6
                          · refine oS_dl ?_
                            refine oS_ite (fun hb => ?_) (fun hb => ?_)
                            · refine oS_dl ?_
                              refine oS_let fun g5 e => ?_
                              have f_g5 : fR g0 g5 := by rw [e]; exact fR_up f_g4 (by decide)
                              clear e
                              refine oS_let fun p5 e_p5 => ?_
                              refine oS_let fun g6 e => ?_
                              have f_g6 : fR g0 g6 := by rw [e, e_p5]; exact fR_tr f_g5 fn57_rq
                              clear e
                              exact f_g6
                            · refine oS_let fun g5 e => ?_
                              have f_g5 : fR g0 g5 := by rw [e]; exact fR_up f_g4 (by decide)
                              clear e
                              refine oS_let fun p5 e_p5 => ?_
                              refine oS_let fun g6 e => ?_
                              have f_g6 : fR g0 g6 := by rw [e, e_p5]; exact fR_tr f_g5 fn57_rq
                              clear e
                              exact f_g6
            · refine oS_dl ?_
              refine oS_dl ?_
              refine oS_ite (fun hb => ?_) (fun hb => ?_)
              · refine oS_dl ?_
                refine oS_let fun g2 e => ?_
                have f_g2 : fR g0 g2 := by rw [e]; exact fR_up f_g1 (by decide)
                clear e
                refine oS_dl ?_
                refine oS_let fun g3 e => ?_
                have f_g3 : fR g0 g3 := by rw [e]; exact fR_up f_g2 (by decide)
                clear e
                refine oS_dl ?_
                refine oS_let fun g4 e => ?_
                have f_g4 : fR g0 g4 := by rw [e]; exact fR_up f_g3 (by decide)
                clear e
                refine oS_dl ?_
                refine oS_let fun g5 e => ?_
                have f_g5 : fR g0 g5 := by rw [e]; exact fR_up f_g4 (by decide)
                clear e
                refine oS_let fun p5 e_p5 => ?_
                refine oS_let fun g6 e => ?_
                have f_g6 : fR g0 g6 := by rw [e, e_p5]; exact fR_tr f_g5 fn57_rq
                clear e
                exact f_g6
              · refine oS_dl ?_
                refine oS_ite (fun hb => ?_) (fun hb => ?_)
                · refine oS_dl ?_
                  refine oS_let fun g2 e => ?_
                  have f_g2 : fR g0 g2 := by rw [e]; exact fR_up f_g1 (by decide)
                  clear e
                  refine oS_ite (fun hb => ?_) (fun hb => ?_)
                  · refine oS_dl ?_
                    refine oS_let fun g3 e => ?_
                    have f_g3 : fR g0 g3 := by rw [e]; exact fR_up f_g2 (by decide)
                    clear e
                    refine oS_dl ?_
                    refine oS_let fun g4 e => ?_
                    have f_g4 : fR g0 g4 := by rw [e]; exact fR_up f_g3 (by decide)
                    clear e
                    refine oS_dl ?_
                    refine oS_let fun g5 e => ?_
                    have f_g5 : fR g0 g5 := by rw [e]; exact fR_up f_g4 (by decide)
                    clear e
                    refine oS_let fun p5 e_p5 => ?_
                    refine oS_let fun g6 e => ?_
                    have f_g6 : fR g0 g6 := by rw [e, e_p5]; exact fR_tr f_g5 fn57_rq
                    clear e
                    exact f_g6
                  · refine oS_dl ?_
                    refine oS_ite (fun hb => ?_) (fun hb => ?_)
                    · refine oS_dl ?_
                      refine oS_let fun g3 e => ?_
                      have f_g3 : fR g0 g3 := by rw [e]; exact fR_up f_g2 (by decide)
                      clear e
                      refine oS_ite (fun hb => ?_) (fun hb => ?_)
                      · refine oS_dl ?_
                        refine oS_let fun g4 e => ?_
                        have f_g4 : fR g0 g4 := by rw [e]; exact fR_up f_g3 (by decide)
                        clear e
                        refine oS_dl ?_
                        refine oS_let fun g5 e => ?_
                        have f_g5 : fR g0 g5 := by rw [e]; exact fR_up f_g4 (by decide)
                        clear e
                        refine oS_let fun p5 e_p5 => ?_
                        refine oS_let fun g6 e => ?_
                        have f_g6 : fR g0 g6 := by rw [e, e_p5]; exact fR_tr f_g5 fn57_rq
                        clear e
                        exact f_g6
                      · refine oS_dl ?_
                        refine oS_ite (fun hb => ?_) (fun hb => ?_)
                        · refine oS_dl ?_
                          refine oS_let fun g4 e => ?_
                          have f_g4 : fR g0 g4 := by rw [e]; exact fR_up f_g3 (by decide)
                          clear e
                          refine oS_ite (fun hb => ?_) (fun hb => ?_)
                          · refine oS_dl ?_
                            refine oS_let fun g5 e => ?_
                            have f_g5 : fR g0 g5 := by rw [e]; exact fR_up f_g4 (by decide)
                            clear e
                            refine oS_let fun p5 e_p5 => ?_
                            refine oS_let fun g6 e => ?_
                            have f_g6 : fR g0 g6 := by rw [e, e_p5]; exact fR_tr f_g5 fn57_rq
                            clear e
                            exact f_g6
                          · refine oS_dl ?_
                            refine oS_ite (fun hb => ?_) (fun hb => ?_)
                            · refine oS_dl ?_
                              refine oS_let fun g5 e => ?_
                              have f_g5 : fR g0 g5 := by rw [e]; exact fR_up f_g4 (by decide)
                              clear e
                              refine oS_let fun p5 e_p5 => ?_
                              refine oS_let fun g6 e => ?_
                              have f_g6 : fR g0 g6 := by rw [e, e_p5]; exact fR_tr f_g5 fn57_rq
                              clear e
                              exact f_g6
                            · refine oS_let fun g5 e => ?_
                              have f_g5 : fR g0 g5 := by rw [e]; exact fR_up f_g4 (by decide)
                              clear e
                              refine oS_let fun p5 e_p5 => ?_
                              refine oS_let fun g6 e => ?_
                              have f_g6 : fR g0 g6 := by rw [e, e_p5]; exact fR_tr f_g5 fn57_rq
                              clear e
                              exact f_g6
                        · refine oS_let fun g4 e => ?_
                          have f_g4 : fR g0 g4 := by rw [e]; exact fR_up f_g3 (by decide)
                          clear e
                          refine oS_ite (fun hb => ?_) (fun hb => ?_)
                          · refine oS_dl ?_
                            refine oS_let fun g5 e => ?_
                            have f_g5 : fR g0 g5 := by rw [e]; exact fR_up f_g4 (by decide)
                            clear e
                            refine oS_let fun p5 e_p5 => ?_
                            refine oS_let fun g6 e => ?_
                            have f_g6 : fR g0 g6 := by rw [e, e_p5]; exact fR_tr f_g5 fn57_rq
                            clear e
                            exact f_g6
                          · refine oS_dl ?_
                            refine oS_ite (fun hb => ?_) (fun hb => ?_)
                            · refine oS_dl ?_
                              refine oS_let fun g5 e => ?_
                              have f_g5 : fR g0 g5 := by rw [e]; exact fR_up f_g4 (by decide)
                              clear e
                              refine oS_let fun p5 e_p5 => ?_
                              refine oS_let fun g6 e => ?_
                              have f_g6 : fR g0 g6 := by rw [e, e_p5]; exact fR_tr f_g5 fn57_rq
                              clear e
                              exact f_g6
                            · refine oS_let fun g5 e => ?_
                              have f_g5 : fR g0 g5 := by rw [e]; exact fR_up f_g4 (by decide)
                              clear e
                              refine oS_let fun p5 e_p5 => ?_
                              refine oS_let fun g6 e => ?_
                              have f_g6 : fR g0 g6 := by rw [e, e_p5]; exact fR_tr f_g5 fn57_rq
                              clear e
                              exact f_g6
                    · refine oS_let fun g3 e => ?_
                      have f_g3 : fR g0 g3 := by rw [e]; exact fR_up f_g2 (by decide)
                      clear e
                      refine oS_ite (fun hb => ?_) (fun hb => ?_)
                      · refine oS_dl ?_
                        refine oS_let fun g4 e => ?_
                        have f_g4 : fR g0 g4 := by rw [e]; exact fR_up f_g3 (by decide)
                        clear e
                        refine oS_dl ?_
                        refine oS_let fun g5 e => ?_
                        have f_g5 : fR g0 g5 := by rw [e]; exact fR_up f_g4 (by decide)
                        clear e
                        refine oS_let fun p5 e_p5 => ?_
                        refine oS_let fun g6 e => ?_
                        have f_g6 : fR g0 g6 := by rw [e, e_p5]; exact fR_tr f_g5 fn57_rq
                        clear e
                        exact f_g6
                      · refine oS_dl ?_
                        refine oS_ite (fun hb => ?_) (fun hb => ?_)
                        · refine oS_dl ?_
                          refine oS_let fun g4 e => ?_
                          have f_g4 : fR g0 g4 := by rw [e]; exact fR_up f_g3 (by decide)
                          clear e
                          refine oS_ite (fun hb => ?_) (fun hb => ?_)
                          · refine oS_dl ?_
                            refine oS_let fun g5 e => ?_
                            have f_g5 : fR g0 g5 := by rw [e]; exact fR_up f_g4 (by decide)
                            clear e
                            refine oS_let fun p5 e_p5 => ?_
                            refine oS_let fun g6 e => ?_
                            have f_g6 : fR g0 g6 := by rw [e, e_p5]; exact fR_tr f_g5 fn57_rq
                            clear e
                            exact f_g6
                          · refine oS_dl ?_
                            refine oS_ite (fun hb => ?_) (fun hb => ?_)
                            · refine oS_dl ?_
                              refine oS_let fun g5 e => ?_
                              have f_g5 : fR g0 g5 := by rw [e]; exact fR_up f_g4 (by decide)
                              clear e
                              refine oS_let fun p5 e_p5 => ?_
                              refine oS_let fun g6 e => ?_
                              have f_g6 : fR g0 g6 := by rw [e, e_p5]; exact fR_tr f_g5 fn57_rq
                              clear e
                              exact f_g6
                            · refine oS_let fun g5 e => ?_
                              have f_g5 : fR g0 g5 := by rw [e]; exact fR_up f_g4 (by decide)
                              clear e
                              refine oS_let fun p5 e_p5 => ?_
                              refine oS_let fun g6 e => ?_
                              have f_g6 : fR g0 g6 := by rw [e, e_p5]; exact fR_tr f_g5 fn57_rq
                              clear e
                              exact f_g6
                        · refine oS_let fun g4 e => ?_
                          have f_g4 : fR g0 g4 := by rw [e]; exact fR_up f_g3 (by decide)
                          clear e
                          refine oS_ite (fun hb => ?_) (fun hb => ?_)
                          · refine oS_dl ?_
                            refine oS_let fun g5 e => ?_
                            have f_g5 : fR g0 g5 := by rw [e]; exact fR_up f_g4 (by decide)
                            clear e
                            refine oS_let fun p5 e_p5 => ?_
                            refine oS_let fun g6 e => ?_
                            have f_g6 : fR g0 g6 := by rw [e, e_p5]; exact fR_tr f_g5 fn57_rq
                            clear e
                            exact f_g6
                          · refine oS_dl ?_
                            refine oS_ite (fun hb => ?_) (fun hb => ?_)
                            · refine oS_dl ?_
                              refine oS_let fun g5 e => ?_
                              have f_g5 : fR g0 g5 := by rw [e]; exact fR_up f_g4 (by decide)
                              clear e
                              refine oS_let fun p5 e_p5 => ?_
                              refine oS_let fun g6 e => ?_
                              have f_g6 : fR g0 g6 := by rw [e, e_p5]; exact fR_tr f_g5 fn57_rq
                              clear e
                              exact f_g6
                            · refine oS_let fun g5 e => ?_
                              have f_g5 : fR g0 g5 := by rw [e]; exact fR_up f_g4 (by decide)
                              clear e
                              refine oS_let fun p5 e_p5 => ?_
                              refine oS_let fun g6 e => ?_
                              have f_g6 : fR g0 g6 := by rw [e, e_p5]; exact fR_tr f_g5 fn57_rq
                              clear e
                              exact f_g6
                · refine oS_let fun g2 e => ?_
                  have f_g2 : fR g0 g2 := by rw [e]; exact fR_up f_g1 (by decide)
                  clear e
                  refine oS_ite (fun hb => ?_) (fun hb => ?_)
                  · refine oS_dl ?_
                    refine oS_let fun g3 e => ?_
                    have f_g3 : fR g0 g3 := by rw [e]; exact fR_up f_g2 (by decide)
                    clear e
                    refine oS_dl ?_
                    refine oS_let fun g4 e => ?_
                    have f_g4 : fR g0 g4 := by rw [e]; exact fR_up f_g3 (by decide)
                    clear e
                    refine oS_dl ?_
                    refine oS_let fun g5 e => ?_
                    have f_g5 : fR g0 g5 := by rw [e]; exact fR_up f_g4 (by decide)
                    clear e
                    refine oS_let fun p5 e_p5 => ?_
                    refine oS_let fun g6 e => ?_
                    have f_g6 : fR g0 g6 := by rw [e, e_p5]; exact fR_tr f_g5 fn57_rq
                    clear e
                    exact f_g6
                  · refine oS_dl ?_
                    refine oS_ite (fun hb => ?_) (fun hb => ?_)
                    · refine oS_dl ?_
                      refine oS_let fun g3 e => ?_
                      have f_g3 : fR g0 g3 := by rw [e]; exact fR_up f_g2 (by decide)
                      clear e
                      refine oS_ite (fun hb => ?_) (fun hb => ?_)
                      · refine oS_dl ?_
                        refine oS_let fun g4 e => ?_
                        have f_g4 : fR g0 g4 := by rw [e]; exact fR_up f_g3 (by decide)
                        clear e
                        refine oS_dl ?_
                        refine oS_let fun g5 e => ?_
                        have f_g5 : fR g0 g5 := by rw [e]; exact fR_up f_g4 (by decide)
                        clear e
                        refine oS_let fun p5 e_p5 => ?_
                        refine oS_let fun g6 e => ?_
                        have f_g6 : fR g0 g6 := by rw [e, e_p5]; exact fR_tr f_g5 fn57_rq
                        clear e
                        exact f_g6
                      · refine oS_dl ?_
                        refine oS_ite (fun hb => ?_) (fun hb => ?_)
                        · refine oS_dl ?_
                          refine oS_let fun g4 e => ?_
                          have f_g4 : fR g0 g4 := by rw [e]; exact fR_up f_g3 (by decide)
                          clear e
                          refine oS_ite (fun hb => ?_) (fun hb => ?_)
                          · refine oS_dl ?_
                            refine oS_let fun g5 e => ?_
                            have f_g5 : fR g0 g5 := by rw [e]; exact fR_up f_g4 (by decide)
                            clear e
                            refine oS_let fun p5 e_p5 => ?_
                            refine oS_let fun g6 e => ?_
                            have f_g6 : fR g0 g6 := by rw [e, e_p5]; exact fR_tr f_g5 fn57_rq
                            clear e
                            exact f_g6
                          · refine oS_dl ?_
                            refine oS_ite (fun hb => ?_) (fun hb => ?_)
                            · refine oS_dl ?_
                              refine oS_let fun g5 e => ?_
                              have f_g5 : fR g0 g5 := by rw [e]; exact fR_up f_g4 (by decide)
                              clear e
                              refine oS_let fun p5 e_p5 => ?_
                              refine oS_let fun g6 e => ?_
                              have f_g6 : fR g0 g6 := by rw [e, e_p5]; exact fR_tr f_g5 fn57_rq
                              clear e
                              exact f_g6
                            · refine oS_let fun g5 e => ?_
                              have f_g5 : fR g0 g5 := by rw [e]; exact fR_up f_g4 (by decide)
                              clear e
                              refine oS_let fun p5 e_p5 => ?_
                              refine oS_let fun g6 e => ?_
                              have f_g6 : fR g0 g6 := by rw [e, e_p5]; exact fR_tr f_g5 fn57_rq
                              clear e
                              exact f_g6
                        · refine oS_let fun g4 e => ?_
                          have f_g4 : fR g0 g4 := by rw [e]; exact fR_up f_g3 (by decide)
                          clear e
                          refine oS_ite (fun hb => ?_) (fun hb => ?_)
                          · refine oS_dl ?_
                            refine oS_let fun g5 e => ?_
                            have f_g5 : fR g0 g5 := by rw [e]; exact fR_up f_g4 (by decide)
                            clear e
                            refine oS_let fun p5 e_p5 => ?_
                            refine oS_let fun g6 e => ?_
                            have f_g6 : fR g0 g6 := by rw [e, e_p5]; exact fR_tr f_g5 fn57_rq
                            clear e
                            exact f_g6
                          · refine oS_dl ?_
                            refine oS_ite (fun hb => ?_) (fun hb => ?_)
                            · refine oS_dl ?_
                              refine oS_let fun g5 e => ?_
                              have f_g5 : fR g0 g5 := by rw [e]; exact fR_up f_g4 (by decide)
                              clear e
                              refine oS_let fun p5 e_p5 => ?_
                              refine oS_let fun g6 e => ?_
                              have f_g6 : fR g0 g6 := by rw [e, e_p5]; exact fR_tr f_g5 fn57_rq
                              clear e
                              exact f_g6
                            · refine oS_let fun g5 e => ?_
                              have f_g5 : fR g0 g5 := by rw [e]; exact fR_up f_g4 (by decide)
                              clear e
                              refine oS_let fun p5 e_p5 => ?_
                              refine oS_let fun g6 e => ?_
                              have f_g6 : fR g0 g6 := by rw [e, e_p5]; exact fR_tr f_g5 fn57_rq
                              clear e
                              exact f_g6
                    · refine oS_let fun g3 e => ?_
                      have f_g3 : fR g0 g3 := by rw [e]; exact fR_up f_g2 (by decide)
                      clear e
                      refine oS_ite (fun hb => ?_) (fun hb => ?_)
                      · refine oS_dl ?_
                        refine oS_let fun g4 e => ?_
                        have f_g4 : fR g0 g4 := by rw [e]; exact fR_up f_g3 (by decide)
                        clear e
                        refine oS_dl ?_
                        refine oS_let fun g5 e => ?_
                        have f_g5 : fR g0 g5 := by rw [e]; exact fR_up f_g4 (by decide)
                        clear e
                        refine oS_let fun p5 e_p5 => ?_
                        refine oS_let fun g6 e => ?_
                        have f_g6 : fR g0 g6 := by rw [e, e_p5]; exact fR_tr f_g5 fn57_rq
                        clear e
                        exact f_g6
                      · refine oS_dl ?_
                        refine oS_ite (fun hb => ?_) (fun hb => ?_)
                        · refine oS_dl ?_
                          refine oS_let fun g4 e => ?_
                          have f_g4 : fR g0 g4 := by rw [e]; exact fR_up f_g3 (by decide)
                          clear e
                          refine oS_ite (fun hb => ?_) (fun hb => ?_)
                          · refine oS_dl ?_
                            refine oS_let fun g5 e => ?_
                            have f_g5 : fR g0 g5 := by rw [e]; exact fR_up f_g4 (by decide)
                            clear e
                            refine oS_let fun p5 e_p5 => ?_
                            refine oS_let fun g6 e => ?_
                            have f_g6 : fR g0 g6 := by rw [e, e_p5]; exact fR_tr f_g5 fn57_rq
                            clear e
                            exact f_g6
                          · refine oS_dl ?_
                            refine oS_ite (fun hb => ?_) (fun hb => ?_)
                            · refine oS_dl ?_
                              refine oS_let fun g5 e => ?_
                              have f_g5 : fR g0 g5 := by rw [e]; exact fR_up f_g4 (by decide)
                              clear e
                              refine oS_let fun p5 e_p5 => ?_
                              refine oS_let fun g6 e => ?_
                              have f_g6 : fR g0 g6 := by rw [e, e_p5]; exact fR_tr f_g5 fn57_rq
                              clear e
                              exact f_g6
                            · refine oS_let fun g5 e => ?_
                              have f_g5 : fR g0 g5 := by rw [e]; exact fR_up f_g4 (by decide)
                              clear e
                              refine oS_let fun p5 e_p5 => ?_
                              refine oS_let fun g6 e => ?_
                              have f_g6 : fR g0 g6 := by rw [e, e_p5]; exact fR_tr f_g5 fn57_rq
                              clear e
                              exact f_g6
                        · refine oS_let fun g4 e => ?_
                          have f_g4 : fR g0 g4 := by rw [e]; exact fR_up f_g3 (by decide)
                          clear e
                          refine oS_ite (fun hb => ?_) (fun hb => ?_)
                          · refine oS_dl ?_
                            refine oS_let fun g5 e => ?_
                            have f_g5 : fR g0 g5 := by rw [e]; exact fR_up f_g4 (by decide)
                            clear e
                            refine oS_let fun p5 e_p5 => ?_
                            refine oS_let fun g6 e => ?_
                            have f_g6 : fR g0 g6 := by rw [e, e_p5]; exact fR_tr f_g5 fn57_rq
                            clear e
                            exact f_g6
                          · refine oS_dl ?_
                            refine oS_ite (fun hb => ?_) (fun hb => ?_)
                            · refine oS_dl ?_
                              refine oS_let fun g5 e => ?_
                              have f_g5 : fR g0 g5 := by rw [e]; exact fR_up f_g4 (by decide)
                              clear e
                              refine oS_let fun p5 e_p5 => ?_
                              refine oS_let fun g6 e => ?_
                              have f_g6 : fR g0 g6 := by rw [e, e_p5]; exact fR_tr f_g5 fn57_rq
                              clear e
                              exact f_g6
                            · refine oS_let fun g5 e => ?_
                              have f_g5 : fR g0 g5 := by rw [e]; exact fR_up f_g4 (by decide)
                              clear e
                              refine oS_let fun p5 e_p5 => ?_
                              refine oS_let fun g6 e => ?_
                              have f_g6 : fR g0 g6 := by rw [e, e_p5]; exact fR_tr f_g5 fn57_rq
                              clear e
                              exact f_g6
          · refine oS_dl ?_
            refine oS_ite (fun hb => ?_) (fun hb => ?_)
            · refine oS_dl ?_
              refine oS_dl ?_
              refine oS_ite (fun hb => ?_) (fun hb => ?_)
              · refine oS_dl ?_
                refine oS_let fun g2 e => ?_
                have f_g2 : fR g0 g2 := by rw [e]; exact fR_up f_g1 (by decide)
                clear e
                refine oS_dl ?_
                refine oS_let fun g3 e => ?_
                have f_g3 : fR g0 g3 := by rw [e]; exact fR_up f_g2 (by decide)
                clear e
                refine oS_dl ?_
                refine oS_let fun g4 e => ?_
                have f_g4 : fR g0 g4 := by rw [e]; exact fR_up f_g3 (by decide)
                clear e
                refine oS_dl ?_
                refine oS_let fun g5 e => ?_
                have f_g5 : fR g0 g5 := by rw [e]; exact fR_up f_g4 (by decide)
                clear e
                refine oS_let fun p5 e_p5 => ?_
                refine oS_let fun g6 e => ?_
                have f_g6 : fR g0 g6 := by rw [e, e_p5]; exact fR_tr f_g5 fn57_rq
                clear e
                exact f_g6
              · refine oS_dl ?_
                refine oS_ite (fun hb => ?_) (fun hb => ?_)
                · refine oS_dl ?_
                  refine oS_let fun g2 e => ?_
                  have f_g2 : fR g0 g2 := by rw [e]; exact fR_up f_g1 (by decide)
                  clear e
                  refine oS_ite (fun hb => ?_) (fun hb => ?_)
                  · refine oS_dl ?_
                    refine oS_let fun g3 e => ?_
                    have f_g3 : fR g0 g3 := by rw [e]; exact fR_up f_g2 (by decide)
                    clear e
                    refine oS_dl ?_
                    refine oS_let fun g4 e => ?_
                    have f_g4 : fR g0 g4 := by rw [e]; exact fR_up f_g3 (by decide)
                    clear e
                    refine oS_dl ?_
                    refine oS_let fun g5 e => ?_
                    have f_g5 : fR g0 g5 := by rw [e]; exact fR_up f_g4 (by decide)
                    clear e
                    refine oS_let fun p5 e_p5 => ?_
                    refine oS_let fun g6 e => ?_
                    have f_g6 : fR g0 g6 := by rw [e, e_p5]; exact fR_tr f_g5 fn57_rq
                    clear e
                    exact f_g6
                  · refine oS_dl ?_
                    refine oS_ite (fun hb => ?_) (fun hb => ?_)
                    · refine oS_dl ?_
                      refine oS_let fun g3 e => ?_
                      have f_g3 : fR g0 g3 := by rw [e]; exact fR_up f_g2 (by decide)
                      clear e
                      refine oS_ite (fun hb => ?_) (fun hb => ?_)
                      · refine oS_dl ?_
                        refine oS_let fun g4 e => ?_
                        have f_g4 : fR g0 g4 := by rw [e]; exact fR_up f_g3 (by decide)
                        clear e
                        refine oS_dl ?_
                        refine oS_let fun g5 e => ?_
                        have f_g5 : fR g0 g5 := by rw [e]; exact fR_up f_g4 (by decide)
                        clear e
                        refine oS_let fun p5 e_p5 => ?_
                        refine oS_let fun g6 e => ?_
                        have f_g6 : fR g0 g6 := by rw [e, e_p5]; exact fR_tr f_g5 fn57_rq
                        clear e
                        exact f_g6
                      · refine oS_dl ?_
                        refine oS_ite (fun hb => ?_) (fun hb => ?_)
                        · refine oS_dl ?_
                          refine oS_let fun g4 e => ?_
                          have f_g4 : fR g0 g4 := by rw [e]; exact fR_up f_g3 (by decide)
                          clear e
                          refine oS_ite (fun hb => ?_) (fun hb => ?_)
                          · refine oS_dl ?_
                            refine oS_let fun g5 e => ?_
                            have f_g5 : fR g0 g5 := by rw [e]; exact fR_up f_g4 (by decide)
                            clear e
                            refine oS_let fun p5 e_p5 => ?_
                            refine oS_let fun g6 e => ?_
                            have f_g6 : fR g0 g6 := by rw [e, e_p5]; exact fR_tr f_g5 fn57_rq
                            clear e
                            exact f_g6
                          · refine oS_dl ?_
                            refine oS_ite (fun hb => ?_) (fun hb => ?_)
                            · refine oS_dl ?_
                              refine oS_let fun g5 e => ?_
                              have f_g5 : fR g0 g5 := by rw [e]; exact fR_up f_g4 (by decide)
                              clear e
                              refine oS_let fun p5 e_p5 => ?_
                              refine oS_let fun g6 e => ?_
                              have f_g6 : fR g0 g6 := by rw [e, e_p5]; exact fR_tr f_g5 fn57_rq
                              clear e
                              exact f_g6
                            · refine oS_let fun g5 e => ?_
                              have f_g5 : fR g0 g5 := by rw [e]; exact fR_up f_g4 (by decide)
                              clear e
                              refine oS_let fun p5 e_p5 => ?_
                              refine oS_let fun g6 e => ?_
                              have f_g6 : fR g0 g6 := by rw [e, e_p5]; exact fR_tr f_g5 fn57_rq
                              clear e
                              exact f_g6
                        · refine oS_let fun g4 e => ?_
                          have f_g4 : fR g0 g4 := by rw [e]; exact fR_up f_g3 (by decide)
                          clear e
                          refine oS_ite (fun hb => ?_) (fun hb => ?_)
                          · refine oS_dl ?_
                            refine oS_let fun g5 e => ?_
                            have f_g5 : fR g0 g5 := by rw [e]; exact fR_up f_g4 (by decide)
                            clear e
                            refine oS_let fun p5 e_p5 => ?_
                            refine oS_let fun g6 e => ?_
                            have f_g6 : fR g0 g6 := by rw [e, e_p5]; exact fR_tr f_g5 fn57_rq
                            clear e
                            exact f_g6
                          · refine oS_dl ?_
                            refine oS_ite (fun hb => ?_) (fun hb => ?_)
                            · refine oS_dl ?_
                              refine oS_let fun g5 e => ?_
                              have f_g5 : fR g0 g5 := by rw [e]; exact fR_up f_g4 (by decide)
                              clear e
                              refine oS_let fun p5 e_p5 => ?_
                              refine oS_let fun g6 e => ?_
                              have f_g6 : fR g0 g6 := by rw [e, e_p5]; exact fR_tr f_g5 fn57_rq
                              clear e
                              exact f_g6
                            · refine oS_let fun g5 e => ?_
                              have f_g5 : fR g0 g5 := by rw [e]; exact fR_up f_g4 (by decide)
                              clear e
                              refine oS_let fun p5 e_p5 => ?_
                              refine oS_let fun g6 e => ?_
                              have f_g6 : fR g0 g6 := by rw [e, e_p5]; exact fR_tr f_g5 fn57_rq
                              clear e
                              exact f_g6
                    · refine oS_let fun g3 e => ?_
                      have f_g3 : fR g0 g3 := by rw [e]; exact fR_up f_g2 (by decide)
                      clear e
                      refine oS_ite (fun hb => ?_) (fun hb => ?_)
                      · refine oS_dl ?_
                        refine oS_let fun g4 e => ?_
                        have f_g4 : fR g0 g4 := by rw [e]; exact fR_up f_g3 (by decide)
                        clear e
                        refine oS_dl ?_
                        refine oS_let fun g5 e => ?_
                        have f_g5 : fR g0 g5 := by rw [e]; exact fR_up f_g4 (by decide)
                        clear e
                        refine oS_let fun p5 e_p5 => ?_
                        refine oS_let fun g6 e => ?_
                        have f_g6 : fR g0 g6 := by rw [e, e_p5]; exact fR_tr f_g5 fn57_rq
                        clear e
                        exact f_g6
                      · refine oS_dl ?_
                        refine oS_ite (fun hb => ?_) (fun hb => ?_)
                        · refine oS_dl ?_
                          refine oS_let fun g4 e => ?_
                          have f_g4 : fR g0 g4 := by rw [e]; exact fR_up f_g3 (by decide)
                          clear e
                          refine oS_ite (fun hb => ?_) (fun hb => ?_)
                          · refine oS_dl ?_
                            refine oS_let fun g5 e => ?_
                            have f_g5 : fR g0 g5 := by rw [e]; exact fR_up f_g4 (by decide)
                            clear e
                            refine oS_let fun p5 e_p5 => ?_
                            refine oS_let fun g6 e => ?_
                            have f_g6 : fR g0 g6 := by rw [e, e_p5]; exact fR_tr f_g5 fn57_rq
                            clear e
                            exact f_g6
                          · refine oS_dl ?_
                            refine oS_ite (fun hb => ?_) (fun hb => ?_)
                            · refine oS_dl ?_
                              refine oS_let fun g5 e => ?_
                              have f_g5 : fR g0 g5 := by rw [e]; exact fR_up f_g4 (by decide)
                              clear e
                              refine oS_let fun p5 e_p5 => ?_
                              refine oS_let fun g6 e => ?_
                              have f_g6 : fR g0 g6 := by rw [e, e_p5]; exact fR_tr f_g5 fn57_rq
                              clear e
                              exact f_g6
                            · refine oS_let fun g5 e => ?_
                              have f_g5 : fR g0 g5 := by rw [e]; exact fR_up f_g4 (by decide)
                              clear e
                              refine oS_let fun p5 e_p5 => ?_
                              refine oS_let fun g6 e => ?_
                              have f_g6 : fR g0 g6 := by rw [e, e_p5]; exact fR_tr f_g5 fn57_rq
                              clear e
                              exact f_g6
                        · refine oS_let fun g4 e => ?_
                          have f_g4 : fR g0 g4 := by rw [e]; exact fR_up f_g3 (by decide)
                          clear e
                          refine oS_ite (fun hb => ?_) (fun hb => ?_)
                          · refine oS_dl ?_
                            refine oS_let fun g5 e => ?_
                            have f_g5 : fR g0 g5 := by rw [e]; exact fR_up f_g4 (by decide)
                            clear e
                            refine oS_let fun p5 e_p5 => ?_
                            refine oS_let fun g6 e => ?_
                            have f_g6 : fR g0 g6 := by rw [e, e_p5]; exact fR_tr f_g5 fn57_rq
                            clear e
                            exact f_g6
                          · refine oS_dl ?_
                            refine oS_ite (fun hb => ?_) (fun hb => ?_)
                            · refine oS_dl ?_
                              refine oS_let fun g5 e => ?_
                              have f_g5 : fR g0 g5 := by rw [e]; exact fR_up f_g4 (by decide)
                              clear e
                              refine oS_let fun p5 e_p5 => ?_
                              refine oS_let fun g6 e => ?_
                              have f_g6 : fR g0 g6 := by rw [e, e_p5]; exact fR_tr f_g5 fn57_rq
                              clear e
                              exact f_g6
                            · refine oS_let fun g5 e => ?_
                              have f_g5 : fR g0 g5 := by rw [e]; exact fR_up f_g4 (by decide)
                              clear e
                              refine oS_let fun p5 e_p5 => ?_
                              refine oS_let fun g6 e => ?_
                              have f_g6 : fR g0 g6 := by rw [e, e_p5]; exact fR_tr f_g5 fn57_rq
                              clear e
                              exact f_g6
                · refine oS_let fun g2 e => ?_
                  have f_g2 : fR g0 g2 := by rw [e]; exact fR_up f_g1 (by decide)
                  clear e
                  refine oS_ite (fun hb => ?_) (fun hb => ?_)
                  · refine oS_dl ?_
                    refine oS_let fun g3 e => ?_
                    have f_g3 : fR g0 g3 := by rw [e]; exact fR_up f_g2 (by decide)
                    clear e
                    refine oS_dl ?_
                    refine oS_let fun g4 e => ?_
                    have f_g4 : fR g0 g4 := by rw [e]; exact fR_up f_g3 (by decide)
                    clear e
                    refine oS_dl ?_
                    refine oS_let fun g5 e => ?_
                    have f_g5 : fR g0 g5 := by rw [e]; exact fR_up f_g4 (by decide)
                    clear e
                    refine oS_let fun p5 e_p5 => ?_
                    refine oS_let fun g6 e => ?_
                    have f_g6 : fR g0 g6 := by rw [e, e_p5]; exact fR_tr f_g5 fn57_rq
                    clear e
                    exact f_g6
                  · refine oS_dl ?_
                    refine oS_ite (fun hb => ?_) (fun hb => ?_)
                    · refine oS_dl ?_
                      refine oS_let fun g3 e => ?_
                      have f_g3 : fR g0 g3 := by rw [e]; exact fR_up f_g2 (by decide)
                      clear e
                      refine oS_ite (fun hb => ?_) (fun hb => ?_)
                      · refine oS_dl ?_
                        refine oS_let fun g4 e => ?_
                        have f_g4 : fR g0 g4 := by rw [e]; exact fR_up f_g3 (by decide)
                        clear e
                        refine oS_dl ?_
                        refine oS_let fun g5 e => ?_
                        have f_g5 : fR g0 g5 := by rw [e]; exact fR_up f_g4 (by decide)
                        clear e
                        refine oS_let fun p5 e_p5 => ?_
                        refine oS_let fun g6 e => ?_
                        have f_g6 : fR g0 g6 := by rw [e, e_p5]; exact fR_tr f_g5 fn57_rq
                        clear e
                        exact f_g6
                      · refine oS_dl ?_
                        refine oS_ite (fun hb => ?_) (fun hb => ?_)
                        · refine oS_dl ?_
                          refine oS_let fun g4 e => ?_
                          have f_g4 : fR g0 g4 := by rw [e]; exact fR_up f_g3 (by decide)
                          clear e
                          refine oS_ite (fun hb => ?_) (fun hb => ?_)
                          · refine oS_dl ?_
                            refine oS_let fun g5 e => ?_
                            have f_g5 : fR g0 g5 := by rw [e]; exact fR_up f_g4 (by decide)
                            clear e
                            refine oS_let fun p5 e_p5 => ?_
                            refine oS_let fun g6 e => ?_
                            have f_g6 : fR g0 g6 := by rw [e, e_p5]; exact fR_tr f_g5 fn57_rq
                            clear e
                            exact f_g6
                          · refine oS_dl ?_
                            refine oS_ite (fun hb => ?_) (fun hb => ?_)
                            · refine oS_dl ?_
                              refine oS_let fun g5 e => ?_
                              have f_g5 : fR g0 g5 := by rw [e]; exact fR_up f_g4 (by decide)
                              clear e
                              refine oS_let fun p5 e_p5 => ?_
                              refine oS_let fun g6 e => ?_
                              have f_g6 : fR g0 g6 := by rw [e, e_p5]; exact fR_tr f_g5 fn57_rq
                              clear e
                              exact f_g6
                            · refine oS_let fun g5 e => ?_
                              have f_g5 : fR g0 g5 := by rw [e]; exact fR_up f_g4 (by decide)
                              clear e
                              refine oS_let fun p5 e_p5 => ?_
                              refine oS_let fun g6 e => ?_
                              have f_g6 : fR g0 g6 := by rw [e, e_p5]; exact fR_tr f_g5 fn57_rq
                              clear e
                              exact f_g6
                        · refine oS_let fun g4 e => ?_
                          have f_g4 : fR g0 g4 := by rw [e]; exact fR_up f_g3 (by decide)
                          clear e
                          refine oS_ite (fun hb => ?_) (fun hb => ?_)
                          · refine oS_dl ?_
                            refine oS_let fun g5 e => ?_
                            have f_g5 : fR g0 g5 := by rw [e]; exact fR_up f_g4 (by decide)
                            clear e
                            refine oS_let fun p5 e_p5 => ?_
                            refine oS_let fun g6 e => ?_
                            have f_g6 : fR g0 g6 := by rw [e, e_p5]; exact fR_tr f_g5 fn57_rq
                            clear e
                            exact f_g6
                          · refine oS_dl ?_
                            refine oS_ite (fun hb => ?_) (fun hb => ?_)
                            · refine oS_dl ?_
                              refine oS_let fun g5 e => ?_
                              have f_g5 : fR g0 g5 := by rw [e]; exact fR_up f_g4 (by decide)
                              clear e
                              refine oS_let fun p5 e_p5 => ?_
                              refine oS_let fun g6 e => ?_
                              have f_g6 : fR g0 g6 := by rw [e, e_p5]; exact fR_tr f_g5 fn57_rq
                              clear e
                              exact f_g6
                            · refine oS_let fun g5 e => ?_
                              have f_g5 : fR g0 g5 := by rw [e]; exact fR_up f_g4 (by decide)
                              clear e
                              refine oS_let fun p5 e_p5 => ?_
                              refine oS_let fun g6 e => ?_
                              have f_g6 : fR g0 g6 := by rw [e, e_p5]; exact fR_tr f_g5 fn57_rq
                              clear e
                              exact f_g6
                    · refine oS_let fun g3 e => ?_
                      have f_g3 : fR g0 g3 := by rw [e]; exact fR_up f_g2 (by decide)
                      clear e
                      refine oS_ite (fun hb => ?_) (fun hb => ?_)
                      · refine oS_dl ?_
                        refine oS_let fun g4 e => ?_
                        have f_g4 : fR g0 g4 := by rw [e]; exact fR_up f_g3 (by decide)
                        clear e
                        refine oS_dl ?_
                        refine oS_let fun g5 e => ?_
                        have f_g5 : fR g0 g5 := by rw [e]; exact fR_up f_g4 (by decide)
                        clear e
                        refine oS_let fun p5 e_p5 => ?_
                        refine oS_let fun g6 e => ?_
                        have f_g6 : fR g0 g6 := by rw [e, e_p5]; exact fR_tr f_g5 fn57_rq
                        clear e
                        exact f_g6
                      · refine oS_dl ?_
                        refine oS_ite (fun hb => ?_) (fun hb => ?_)
                        · refine oS_dl ?_
                          refine oS_let fun g4 e => ?_
                          have f_g4 : fR g0 g4 := by rw [e]; exact fR_up f_g3 (by decide)
                          clear e
                          refine oS_ite (fun hb => ?_) (fun hb => ?_)
                          · refine oS_dl ?_
                            refine oS_let fun g5 e => ?_
                            have f_g5 : fR g0 g5 := by rw [e]; exact fR_up f_g4 (by decide)
                            clear e
                            refine oS_let fun p5 e_p5 => ?_
                            refine oS_let fun g6 e => ?_
                            have f_g6 : fR g0 g6 := by rw [e, e_p5]; exact fR_tr f_g5 fn57_rq
                            clear e
                            exact f_g6
                          · refine oS_dl ?_
                            refine oS_ite (fun hb => ?_) (fun hb => ?_)
                            · refine oS_dl ?_
                              refine oS_let fun g5 e => ?_
                              have f_g5 : fR g0 g5 := by rw [e]; exact fR_up f_g4 (by decide)
                              clear e
                              refine oS_let fun p5 e_p5 => ?_
                              refine oS_let fun g6 e => ?_
                              have f_g6 : fR g0 g6 := by rw [e, e_p5]; exact fR_tr f_g5 fn57_rq
                              clear e
                              exact f_g6
                            · refine oS_let fun g5 e => ?_
                              have f_g5 : fR g0 g5 := by rw [e]; exact fR_up f_g4 (by decide)
                              clear e
                              refine oS_let fun p5 e_p5 => ?_
                              refine oS_let fun g6 e => ?_
                              have f_g6 : fR g0 g6 := by rw [e, e_p5]; exact fR_tr f_g5 fn57_rq
                              clear e
                              exact f_g6
                        · refine oS_let fun g4 e => ?_
                          have f_g4 : fR g0 g4 := by rw [e]; exact fR_up f_g3 (by decide)
                          clear e
                          refine oS_ite (fun hb => ?_) (fun hb => ?_)
                          · refine oS_dl ?_
                            refine oS_let fun g5 e => ?_
                            have f_g5 : fR g0 g5 := by rw [e]; exact fR_up f_g4 (by decide)
                            clear e
                            refine oS_let fun p5 e_p5 => ?_
                            refine oS_let fun g6 e => ?_
                            have f_g6 : fR g0 g6 := by rw [e, e_p5]; exact fR_tr f_g5 fn57_rq
                            clear e
                            exact f_g6
                          · refine oS_dl ?_
                            refine oS_ite (fun hb => ?_) (fun hb => ?_)
                            · refine oS_dl ?_
                              refine oS_let fun g5 e => ?_
                              have f_g5 : fR g0 g5 := by rw [e]; exact fR_up f_g4 (by decide)
                              clear e
                              refine oS_let fun p5 e_p5 => ?_
                              refine oS_let fun g6 e => ?_
                              have f_g6 : fR g0 g6 := by rw [e, e_p5]; exact fR_tr f_g5 fn57_rq
                              clear e
                              exact f_g6
                            · refine oS_let fun g5 e => ?_
                              have f_g5 : fR g0 g5 := by rw [e]; exact fR_up f_g4 (by decide)
                              clear e
                              refine oS_let fun p5 e_p5 => ?_
                              refine oS_let fun g6 e => ?_
                              have f_g6 : fR g0 g6 := by rw [e, e_p5]; exact fR_tr f_g5 fn57_rq
                              clear e
                              exact f_g6
            · exact f_g1
    · exact f_g0
  · unfold dn75
    refine oS_dl ?_
    refine oS_dl ?_
    refine oS_let fun g1 e => ?_
    have f_g1 : fR g0 g1 := by rw [e]; exact fR_fl f_g0 (by decide)
    clear e
    refine oS_let fun g2 e => ?_
    have f_g2 : fR g0 g2 := by rw [e]; exact fR_fl f_g1 (by decide)
    clear e
    refine oS_let fun g3 e => ?_
    have f_g3 : fR g0 g3 := by rw [e]; exact fR_fl f_g2 (by decide)
    clear e
    refine oS_let fun p3 e_p3 => ?_
    refine oS_let fun g4 e => ?_
    have f_g4 : fR g0 g4 := by rw [e, e_p3]; exact fR_tr f_g3 fn73_rq
    clear e
    exact f_g4
theorem fn76_rq {x : List Int} {g0 : rHp} : fR g0 (fn76 x g0).2.2 := by
  have f_g0 : fR g0 g0 := fR_refl
  refine zGoo_P (I := fun s => fR g0 s.2.2) fR_zero (fun s hs => ?_) ?_
  · unfold en76
    refine oS_ite (fun hb => ?_) (fun hb => ?_)
    · refine oS_let fun g1 e => ?_
      have f_g1 : fR g0 g1 := by rw [e]; exact hs
      clear e
      refine oS_dl ?_
      refine oS_dl ?_
      refine oS_dl ?_
      refine oS_dl ?_
      refine oS_ite (fun hb => ?_) (fun hb => ?_)
      · exact f_g1
      · refine oS_ite (fun hb => ?_) (fun hb => ?_)
        · exact f_g1
        · refine oS_dl ?_
          refine oS_dl ?_
          refine oS_ite (fun hb => ?_) (fun hb => ?_)
          · refine oS_dl ?_
            refine oS_let fun g2 e => ?_
            have f_g2 : fR g0 g2 := by rw [e]; exact fR_up f_g1 (by decide)
            clear e
            refine oS_dl ?_
            refine oS_let fun g3 e => ?_
            have f_g3 : fR g0 g3 := by rw [e]; exact fR_up f_g2 (by decide)
            clear e
            refine oS_dl ?_
            refine oS_let fun g4 e => ?_
            have f_g4 : fR g0 g4 := by rw [e]; exact fR_up f_g3 (by decide)
            clear e
            refine oS_dl ?_
            refine oS_let fun g5 e => ?_
            have f_g5 : fR g0 g5 := by rw [e]; exact fR_up f_g4 (by decide)
            clear e
            refine oS_let fun p5 e_p5 => ?_
            refine oS_let fun g6 e => ?_
            have f_g6 : fR g0 g6 := by rw [e, e_p5]; exact fR_tr f_g5 fn57_rq
            clear e
            exact f_g6
          · exact f_g1
    · refine oS_ite (fun hb => ?_) (fun hb => ?_)
      · refine oS_let fun g1 e => ?_
        have f_g1 : fR g0 g1 := by rw [e]; exact hs
        clear e
        refine oS_dl ?_
        refine oS_dl ?_
        refine oS_dl ?_
        refine oS_dl ?_
        refine oS_ite (fun hb => ?_) (fun hb => ?_)
        · refine oS_let fun g2 e => ?_
          have f_g2 : fR g0 g2 := by rw [e]; exact fR_fl f_g1 (by decide)
          clear e
          refine oS_let fun g3 e => ?_
          have f_g3 : fR g0 g3 := by rw [e]; exact fR_fl f_g2 (by decide)
          clear e
          exact f_g3
        · refine oS_ite (fun hb => ?_) (fun hb => ?_)
          · refine oS_let fun g2 e => ?_
            have f_g2 : fR g0 g2 := by rw [e]; exact fR_fl f_g1 (by decide)
            clear e
            refine oS_let fun g3 e => ?_
            have f_g3 : fR g0 g3 := by rw [e]; exact fR_fl f_g2 (by decide)
            clear e
            exact f_g3
          · refine oS_dl ?_
            refine oS_ite (fun hb => ?_) (fun hb => ?_)
            · exact f_g1
            · refine oS_dl ?_
              refine oS_dl ?_
              refine oS_ite (fun hb => ?_) (fun hb => ?_)
              · exact f_g1
              · refine oS_let fun p1 e_p1 => ?_
                refine oS_let fun g2 e => ?_
                have f_g2 : fR g0 g2 := by rw [e, e_p1]; exact fR_tr f_g1 fn75_rq
                clear e
                exact f_g2
      · refine oS_ite (fun hb => ?_) (fun hb => ?_)
        · refine oS_let fun g1 e => ?_
          have f_g1 : fR g0 g1 := by rw [e]; exact hs
          clear e
          refine oS_dl ?_
          refine oS_dl ?_
          refine oS_dl ?_
          refine oS_dl ?_
          refine oS_dl ?_
          refine oS_ite (fun hb => ?_) (fun hb => ?_)
          · exact f_g1
          · refine oS_dl ?_
            refine oS_let fun g2 e => ?_
            have f_g2 : fR g0 g2 := by rw [e]; exact fR_fl f_g1 (by decide)
            clear e
            refine oS_dl ?_
            refine oS_let fun g3 e => ?_
            have f_g3 : fR g0 g3 := by rw [e]; exact fR_fl f_g2 (by decide)
            clear e
            refine oS_let fun g4 e => ?_
            have f_g4 : fR g0 g4 := by rw [e]; exact fR_fl f_g3 (by decide)
            clear e
            refine oS_ite (fun hb => ?_) (fun hb => ?_)
            · refine oS_let fun g5 e => ?_
              have f_g5 : fR g0 g5 := by rw [e]; exact fR_fl f_g4 (by decide)
              clear e
              exact f_g5
            · refine oS_let fun g5 e => ?_
              have f_g5 : fR g0 g5 := by rw [e]; exact fR_fl f_g4 (by decide)
              clear e
              exact f_g5
        · refine oS_ite (fun hb => ?_) (fun hb => ?_)
          · refine oS_let fun g1 e => ?_
            have f_g1 : fR g0 g1 := by rw [e]; exact hs
            clear e
            refine oS_dl ?_
            refine oS_dl ?_
            refine oS_dl ?_
            refine oS_dl ?_
            refine oS_dl ?_
            refine oS_dl ?_
            refine oS_dl ?_
            refine oS_ite (fun hb => ?_) (fun hb => ?_)
            · refine oS_ite (fun hb => ?_) (fun hb => ?_)
              · refine oS_let fun g2 e => ?_
                have f_g2 : fR g0 g2 := by rw [e]; exact fR_fl f_g1 (by decide)
                clear e
                refine oS_let fun g3 e => ?_
                have f_g3 : fR g0 g3 := by rw [e]; exact fR_fl f_g2 (by decide)
                clear e
                exact f_g3
              · refine oS_let fun g2 e => ?_
                have f_g2 : fR g0 g2 := by rw [e]; exact fR_fl f_g1 (by decide)
                clear e
                refine oS_let fun g3 e => ?_
                have f_g3 : fR g0 g3 := by rw [e]; exact fR_fl f_g2 (by decide)
                clear e
                exact f_g3
            · refine oS_ite (fun hb => ?_) (fun hb => ?_)
              · refine oS_ite (fun hb => ?_) (fun hb => ?_)
                · refine oS_let fun g2 e => ?_
                  have f_g2 : fR g0 g2 := by rw [e]; exact fR_fl f_g1 (by decide)
                  clear e
                  refine oS_let fun g3 e => ?_
                  have f_g3 : fR g0 g3 := by rw [e]; exact fR_fl f_g2 (by decide)
                  clear e
                  exact f_g3
                · refine oS_let fun g2 e => ?_
                  have f_g2 : fR g0 g2 := by rw [e]; exact fR_fl f_g1 (by decide)
                  clear e
                  refine oS_let fun g3 e => ?_
                  have f_g3 : fR g0 g3 := by rw [e]; exact fR_fl f_g2 (by decide)
                  clear e
                  exact f_g3
              · refine oS_dl ?_
                refine oS_ite (fun hb => ?_) (fun hb => ?_)
                · exact f_g1
                · refine oS_dl ?_
                  refine oS_dl ?_
                  refine oS_ite (fun hb => ?_) (fun hb => ?_)
                  · exact f_g1
                  · refine oS_ite (fun hb => ?_) (fun hb => ?_)
                    · refine oS_let fun p1 e_p1 => ?_
                      refine oS_let fun g2 e => ?_
                      have f_g2 : fR g0 g2 := by rw [e, e_p1]; exact fR_tr f_g1 fn72_rq
                      clear e
                      exact f_g2
                    · refine oS_let fun p1 e_p1 => ?_
                      refine oS_let fun g2 e => ?_
                      have f_g2 : fR g0 g2 := by rw [e, e_p1]; exact fR_tr f_g1 fn71_rq
                      clear e
                      refine oS_dl ?_
                      refine oS_ite (fun hb => ?_) (fun hb => ?_)
                      · exact f_g2
                      · refine oS_let fun p2 e_p2 => ?_
                        refine oS_let fun g3 e => ?_
                        have f_g3 : fR g0 g3 := by rw [e, e_p2]; exact fR_tr f_g2 fn72_rq
                        clear e
                        exact f_g3
          · exact f_g0
  · unfold dn76
    refine oS_dl ?_
    refine oS_let fun g1 e => ?_
    have f_g1 : fR g0 g1 := by rw [e]; exact fR_fl f_g0 (by decide)
    clear e
    exact f_g1
/-- behind a run nothing is answered; a run that fails leaves the counts of the last -/
theorem fn78_rq {x : List Int} {g0 : rHp} : (fun r : zR => (∃ j, r.2.2 40 0 j ≠ 0) → r.2.2 40 = g0 40 ∧ r.2.2 15 0 93 = 0 ∧ (r.2.2 15 0 59 = 0 → ∀ j, j = 74 ∨ j = 75 → r.2.2 15 0 j = g0 15 0 j)) (fn78 x g0) := by
  have base : fR (rUp g0 15 0 93 0) (rUp g0 15 0 93 0) := fR_refl
  have fin : ∀ g : rHp, fR (rUp g0 15 0 93 0) g → (∃ j, g 40 0 j ≠ 0) → g 40 = g0 40 ∧ g 15 0 93 = 0 ∧ ∀ j, j = 74 ∨ j = 75 → g 15 0 j = g0 15 0 j := fun g h z => by
    obtain ⟨a1, a2⟩ := h z
    refine ⟨by rw [a2, rUp_grp (by decide)], by rw [a1 93 (by decide), rUp_at], fun j w => ?_⟩
    rw [a1 j (by omega), rUp_ne (fun w2 => by have := w2.2.2; omega)]
  refine zGoo_R (Q := (fun r : zR => (∃ j, r.2.2 40 0 j ≠ 0) → r.2.2 40 = g0 40 ∧ r.2.2 15 0 93 = 0 ∧ (r.2.2 15 0 59 = 0 → ∀ j, j = 74 ∨ j = 75 → r.2.2 15 0 j = g0 15 0 j))) (I := fun s => s.1 = 0 ∧ fR (rUp g0 15 0 93 0) s.2.2) (fun ⟨_, h⟩ => absurd rfl h) (fun s hs => ?_) ?_
  · unfold en78
    refine oT_ite (fun hb => ?_) (fun hb => ?_)
    · refine oT_let fun g1 e => ?_
      have f_g1 : fR (rUp g0 15 0 93 0) g1 := by rw [e]; exact hs.2
      clear e
      refine oT_dl ?_
      refine oT_dl ?_
      refine oT_dl ?_
      refine oT_dl ?_
      refine oT_dl ?_
      refine oT_dl ?_
      refine oT_ite (fun hb => ?_) (fun hb => ?_)
      · refine oT_ite (fun hb => ?_) (fun hb => ?_)
        · refine oT_let fun g2 e => ?_
          have f_g2 : fR (rUp g0 15 0 93 0) g2 := by rw [e]; exact fR_fl f_g1 (by decide)
          clear e
          refine oT_let fun p2 e_p2 => ?_
          refine oT_let fun g3 e => ?_
          have f_g3 : fR (rUp g0 15 0 93 0) g3 := by rw [e, e_p2]; exact fR_tr f_g2 fn1_rq
          clear e
          exact fun z => ⟨(fin _ f_g3 z).1, (fin _ f_g3 z).2.1, fun _ => (fin _ f_g3 z).2.2⟩
        · exact (show (∃ j, rUp (rUp (fn1 [g1 15 0 77] (rUp g1 15 0 59 1)).2.2 15 0 74 (g1 15 0 72)) 15 0 75 (g1 15 0 73) 40 0 j ≠ 0) → _ from fun z => by
          rw [fn1_eq, rUp_grp (by decide), rUp_grp (by decide), rUp_grp (by decide), rUp_grp (by decide)] at z
          obtain ⟨a1, a2, a3⟩ := fin _ f_g1 z
          refine ⟨?_, ?_, fun w => ?_⟩
          · show rUp (rUp (fn1 [g1 15 0 77] (rUp g1 15 0 59 1)).2.2 15 0 74 (g1 15 0 72)) 15 0 75 (g1 15 0 73) 40 = g0 40
            rw [fn1_eq, rUp_grp (by decide), rUp_grp (by decide), rUp_grp (by decide), rUp_grp (by decide)]
            exact a1
          · show rUp (rUp (fn1 [g1 15 0 77] (rUp g1 15 0 59 1)).2.2 15 0 74 (g1 15 0 72)) 15 0 75 (g1 15 0 73) 15 0 93 = 0
            rw [fn1_eq, rUp_ne (by decide), rUp_ne (by decide), rUp_ne (by decide), rUp_ne (by decide)]
            exact a2
          · have w : rUp (rUp (fn1 [g1 15 0 77] (rUp g1 15 0 59 1)).2.2 15 0 74 (g1 15 0 72)) 15 0 75 (g1 15 0 73) 15 0 59 = 0 := w
            rw [fn1_eq, rUp_ne (by decide), rUp_ne (by decide), rUp_ne (by decide), rUp_at] at w
            exact absurd w (by decide))
      · refine oT_ite (fun hb => ?_) (fun hb => ?_)
        · refine oT_let fun g2 e => ?_
          have f_g2 : fR (rUp g0 15 0 93 0) g2 := by rw [e]; exact fR_fl f_g1 (by decide)
          clear e
          refine oT_let fun p2 e_p2 => ?_
          refine oT_let fun g3 e => ?_
          have f_g3 : fR (rUp g0 15 0 93 0) g3 := by rw [e, e_p2]; exact fR_tr f_g2 fn1_rq
          clear e
          exact fun z => ⟨(fin _ f_g3 z).1, (fin _ f_g3 z).2.1, fun _ => (fin _ f_g3 z).2.2⟩
        · refine oT_let fun p1 e_p1 => ?_
          refine oT_let fun g2 e => ?_
          have f_g2 : fR (rUp g0 15 0 93 0) g2 := by rw [e, e_p1]; exact fR_tr f_g1 fn76_rq
          clear e
          exact ⟨rfl, f_g2⟩
    · exact absurd hs.1 hb
  · unfold dn78
    refine oT_dl ?_
    refine oT_let fun g1 e => ?_
    have f_g1 : fR (rUp g0 15 0 93 0) g1 := by rw [e]; exact base
    clear e
    refine oT_let fun p1 e_p1 => ?_
    refine oT_let fun g2 e => ?_
    have f_g2 : fR (rUp g0 15 0 93 0) g2 := by rw [e, e_p1]; exact fR_tr f_g1 fn77_rq
    clear e
    refine oT_ite (fun hb => ?_) (fun hb => ?_)
    · refine oT_let fun g3 e => ?_
      have f_g3 : fR (rUp g0 15 0 93 0) g3 := by rw [e]; exact fR_fl f_g2 (by decide)
      clear e
      refine oT_let fun g4 e => ?_
      have f_g4 : fR (rUp g0 15 0 93 0) g4 := by rw [e]; exact fR_fl f_g3 (by decide)
      clear e
      refine oT_let fun g5 e => ?_
      have f_g5 : fR (rUp g0 15 0 93 0) g5 := by rw [e]; exact fR_fl f_g4 (by decide)
      clear e
      refine oT_let fun g6 e => ?_
      have f_g6 : fR (rUp g0 15 0 93 0) g6 := by rw [e]; exact fR_fl f_g5 (by decide)
      clear e
      refine oT_ite (fun hb => ?_) (fun hb => ?_)
      · exact ⟨rfl, f_g6⟩
      · refine oT_let fun g7 e => ?_
        have f_g7 : fR (rUp g0 15 0 93 0) g7 := by rw [e]; exact fR_up f_g6 (by decide)
        clear e
        refine oT_ite (fun hb => ?_) (fun hb => ?_)
        · exact ⟨rfl, f_g7⟩
        · refine oT_let fun g8 e => ?_
          have f_g8 : fR (rUp g0 15 0 93 0) g8 := by rw [e]; exact fR_up f_g7 (by decide)
          clear e
          refine oT_ite (fun hb => ?_) (fun hb => ?_)
          · exact ⟨rfl, f_g8⟩
          · refine oT_let fun g9 e => ?_
            have f_g9 : fR (rUp g0 15 0 93 0) g9 := by rw [e]; exact fR_up f_g8 (by decide)
            clear e
            refine oT_ite (fun hb => ?_) (fun hb => ?_)
            · exact ⟨rfl, f_g9⟩
            · refine oT_let fun g10 e => ?_
              have f_g10 : fR (rUp g0 15 0 93 0) g10 := by rw [e]; exact fR_up f_g9 (by decide)
              clear e
              refine oT_ite (fun hb => ?_) (fun hb => ?_)
              · exact ⟨rfl, f_g10⟩
              · refine oT_let fun g11 e => ?_
                have f_g11 : fR (rUp g0 15 0 93 0) g11 := by rw [e]; exact fR_up f_g10 (by decide)
                clear e
                refine oT_ite (fun hb => ?_) (fun hb => ?_)
                · exact ⟨rfl, f_g11⟩
                · refine oT_let fun g12 e => ?_
                  have f_g12 : fR (rUp g0 15 0 93 0) g12 := by rw [e]; exact fR_up f_g11 (by decide)
                  clear e
                  refine oT_ite (fun hb => ?_) (fun hb => ?_)
                  · exact ⟨rfl, f_g12⟩
                  · refine oT_let fun g13 e => ?_
                    have f_g13 : fR (rUp g0 15 0 93 0) g13 := by rw [e]; exact fR_up f_g12 (by decide)
                    clear e
                    refine oT_ite (fun hb => ?_) (fun hb => ?_)
                    · exact ⟨rfl, f_g13⟩
                    · refine oT_let fun g14 e => ?_
                      have f_g14 : fR (rUp g0 15 0 93 0) g14 := by rw [e]; exact fR_up f_g13 (by decide)
                      clear e
                      refine oT_ite (fun hb => ?_) (fun hb => ?_)
                      · exact ⟨rfl, f_g14⟩
                      · refine oT_let fun g15 e => ?_
                        have f_g15 : fR (rUp g0 15 0 93 0) g15 := by rw [e]; exact fR_up f_g14 (by decide)
                        clear e
                        refine oT_ite (fun hb => ?_) (fun hb => ?_)
                        · exact ⟨rfl, f_g15⟩
                        · refine oT_let fun g16 e => ?_
                          have f_g16 : fR (rUp g0 15 0 93 0) g16 := by rw [e]; exact fR_up f_g15 (by decide)
                          clear e
                          refine oT_ite (fun hb => ?_) (fun hb => ?_)
                          · exact ⟨rfl, f_g16⟩
                          · refine oT_let fun g17 e => ?_
                            have f_g17 : fR (rUp g0 15 0 93 0) g17 := by rw [e]; exact fR_up f_g16 (by decide)
                            clear e
                            refine oT_ite (fun hb => ?_) (fun hb => ?_)
                            · exact ⟨rfl, f_g17⟩
                            · refine oT_let fun g18 e => ?_
                              have f_g18 : fR (rUp g0 15 0 93 0) g18 := by rw [e]; exact fR_up f_g17 (by decide)
                              clear e
                              refine oT_ite (fun hb => ?_) (fun hb => ?_)
                              · exact ⟨rfl, f_g18⟩
                              · refine oT_let fun g19 e => ?_
                                have f_g19 : fR (rUp g0 15 0 93 0) g19 := by rw [e]; exact fR_up f_g18 (by decide)
                                clear e
                                refine oT_ite (fun hb => ?_) (fun hb => ?_)
                                · exact ⟨rfl, f_g19⟩
                                · refine oT_let fun g20 e => ?_
                                  have f_g20 : fR (rUp g0 15 0 93 0) g20 := by rw [e]; exact fR_up f_g19 (by decide)
                                  clear e
                                  refine oT_ite (fun hb => ?_) (fun hb => ?_)
                                  · exact ⟨rfl, f_g20⟩
                                  · refine oT_let fun g21 e => ?_
                                    have f_g21 : fR (rUp g0 15 0 93 0) g21 := by rw [e]; exact fR_up f_g20 (by decide)
                                    clear e
                                    refine oT_ite (fun hb => ?_) (fun hb => ?_)
                                    · exact ⟨rfl, f_g21⟩
                                    · refine oT_let fun g22 e => ?_
                                      have f_g22 : fR (rUp g0 15 0 93 0) g22 := by rw [e]; exact fR_up f_g21 (by decide)
                                      clear e
                                      refine oT_ite (fun hb => ?_) (fun hb => ?_)
                                      · exact ⟨rfl, f_g22⟩
                                      · refine oT_let fun g23 e => ?_
                                        have f_g23 : fR (rUp g0 15 0 93 0) g23 := by rw [e]; exact fR_up f_g22 (by decide)
                                        clear e
                                        refine oT_ite (fun hb => ?_) (fun hb => ?_)
                                        · exact ⟨rfl, f_g23⟩
                                        · refine oT_let fun g24 e => ?_
                                          have f_g24 : fR (rUp g0 15 0 93 0) g24 := by rw [e]; exact fR_up f_g23 (by decide)
                                          clear e
                                          refine oT_ite (fun hb => ?_) (fun hb => ?_)
                                          · exact ⟨rfl, f_g24⟩
                                          · refine oT_let fun g25 e => ?_
                                            have f_g25 : fR (rUp g0 15 0 93 0) g25 := by rw [e]; exact fR_up f_g24 (by decide)
                                            clear e
                                            refine oT_ite (fun hb => ?_) (fun hb => ?_)
                                            · exact ⟨rfl, f_g25⟩
                                            · refine oT_let fun g26 e => ?_
                                              have f_g26 : fR (rUp g0 15 0 93 0) g26 := by rw [e]; exact fR_up f_g25 (by decide)
                                              clear e
                                              exact ⟨rfl, f_g26⟩
    · refine oT_let fun g3 e => ?_
      have f_g3 : fR (rUp g0 15 0 93 0) g3 := by rw [e]; exact fR_fl f_g2 (by decide)
      clear e
      refine oT_let fun g4 e => ?_
      have f_g4 : fR (rUp g0 15 0 93 0) g4 := by rw [e]; exact fR_fl f_g3 (by decide)
      clear e
      exact fun z => ⟨(fin _ f_g4 z).1, (fin _ f_g4 z).2.1, fun _ => (fin _ f_g4 z).2.2⟩
