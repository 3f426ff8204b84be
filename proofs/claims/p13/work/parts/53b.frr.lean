/-! ===== what a run leaves as it is ===== -/
/-- nothing is run, and stays so; a heap with RULES keeps its first cells -/
noncomputable def fZ (g g_q : rHp) : Prop := (g 0 0 7 = 0 → g_q 0 0 7 = 0) ∧ ((∃ j, g_q 40 0 j ≠ 0) → g_q 0 = g 0 ∧ g_q 40 = g 40)
theorem fZ_refl {g : rHp} : fZ g g := ⟨id, fun _ => ⟨rfl, rfl⟩⟩
theorem fZ_zero {g : rHp} : fZ g (fun _ _ _ => 0) := ⟨fun _ => rfl, fun ⟨_, h⟩ => absurd rfl h⟩
theorem fZ_tr {a b c : rHp} (h1 : fZ a b) (h2 : fZ b c) : fZ a c := ⟨fun z => h2.1 (h1.1 z), fun z => by
  obtain ⟨b1, b2⟩ := h2.2 z
  obtain ⟨a1, a2⟩ := h1.2 (by rw [← b2]; exact z)
  exact ⟨b1.trans a1, b2.trans a2⟩⟩
theorem fZ_up {a b : rHp} {K : Nat} {o j v : Int} (h : fZ a b) (hK : K ≠ 0 ∧ K ≠ 40) : fZ a (rUp b K o j v) := by
  unfold fZ
  rw [rUp_grp (Ne.symm hK.1), rUp_grp (Ne.symm hK.2)]
  exact h
theorem fZ_cp {a b : rHp} {K K2 : Nat} {o j o2 j2 n : Int} (h : fZ a b) (hK : K2 ≠ 0 ∧ K2 ≠ 40) : fZ a (zCpy b K o j K2 o2 j2 n) := by
  unfold fZ
  rw [zCpy_grp (Ne.symm hK.1), zCpy_grp (Ne.symm hK.2)]
  exact h
theorem fn94_z {x : List Int} {g0 : rHp} : fZ g0 (fn94 x g0).2.2 := by
  have f_g0 : fZ g0 g0 := fZ_refl
  refine zGoo_P (I := fun s => fZ g0 s.2.2) fZ_zero (fun s hs => ?_) ?_
  · unfold en94
    refine oS_ite (fun hb => ?_) (fun hb => ?_)
    · refine oS_let fun g1 e => ?_
      have f_g1 : fZ g0 g1 := by rw [e]; exact hs
      clear e
      refine oS_dl ?_
      refine oS_dl ?_
      refine oS_ite (fun hb => ?_) (fun hb => ?_)
      · exact f_g1
      · refine oS_let fun g2 e => ?_
        have f_g2 : fZ g0 g2 := by rw [e]; exact fZ_up f_g1 (by decide)
        clear e
        exact f_g2
    · exact f_g0
  · unfold dn94
    refine oS_dl ?_
    exact f_g0
theorem fn95_z {x : List Int} {g0 : rHp} : fZ g0 (fn95 x g0).2.2 := by
  have f_g0 : fZ g0 g0 := fZ_refl
  refine zGoo_P (I := fun s => fZ g0 s.2.2) fZ_zero (fun s hs => ?_) ?_
  · unfold en95
    refine oS_ite (fun hb => ?_) (fun hb => ?_)
    · refine oS_let fun g1 e => ?_
      have f_g1 : fZ g0 g1 := by rw [e]; exact hs
      clear e
      refine oS_dl ?_
      refine oS_dl ?_
      refine oS_ite (fun hb => ?_) (fun hb => ?_)
      · exact f_g1
      · refine oS_let fun g2 e => ?_
        have f_g2 : fZ g0 g2 := by rw [e]; exact fZ_up f_g1 (by decide)
        clear e
        exact f_g2
    · exact f_g0
  · unfold dn95
    refine oS_dl ?_
    exact f_g0
theorem fn96_z {x : List Int} {g0 : rHp} : fZ g0 (fn96 x g0).2.2 := by
  have f_g0 : fZ g0 g0 := fZ_refl
  refine zGoo_P (I := fun s => fZ g0 s.2.2) fZ_zero (fun s hs => ?_) ?_
  · unfold en96
    refine oS_ite (fun hb => ?_) (fun hb => ?_)
    · refine oS_let fun g1 e => ?_
      have f_g1 : fZ g0 g1 := by rw [e]; exact hs
      clear e
      refine oS_dl ?_
      refine oS_dl ?_
      refine oS_ite (fun hb => ?_) (fun hb => ?_)
      · exact f_g1
      · refine oS_let fun g2 e => ?_
        have f_g2 : fZ g0 g2 := by rw [e]; exact fZ_up f_g1 (by decide)
        clear e
        exact f_g2
    · exact f_g0
  · unfold dn96
    refine oS_dl ?_
    exact f_g0
theorem fn97_z {x : List Int} {g0 : rHp} : fZ g0 (fn97 x g0).2.2 := by
  have f_g0 : fZ g0 g0 := fZ_refl
  refine zGoo_P (I := fun s => fZ g0 s.2.2) fZ_zero (fun s hs => ?_) ?_
  · unfold en97
    refine oS_ite (fun hb => ?_) (fun hb => ?_)
    · refine oS_let fun g1 e => ?_
      have f_g1 : fZ g0 g1 := by rw [e]; exact hs
      clear e
      refine oS_dl ?_
      refine oS_dl ?_
      refine oS_ite (fun hb => ?_) (fun hb => ?_)
      · exact f_g1
      · refine oS_let fun g2 e => ?_
        have f_g2 : fZ g0 g2 := by rw [e]; exact fZ_up f_g1 (by decide)
        clear e
        exact f_g2
    · exact f_g0
  · unfold dn97
    refine oS_dl ?_
    exact f_g0
theorem fn98_z {x : List Int} {g0 : rHp} : fZ g0 (fn98 x g0).2.2 := by
  have f_g0 : fZ g0 g0 := fZ_refl
  refine zGoo_P (I := fun s => fZ g0 s.2.2) fZ_zero (fun s hs => ?_) ?_
  · unfold en98
    refine oS_ite (fun hb => ?_) (fun hb => ?_)
    · refine oS_let fun g1 e => ?_
      have f_g1 : fZ g0 g1 := by rw [e]; exact hs
      clear e
      refine oS_dl ?_
      refine oS_dl ?_
      refine oS_ite (fun hb => ?_) (fun hb => ?_)
      · exact f_g1
      · refine oS_let fun g2 e => ?_
        have f_g2 : fZ g0 g2 := by rw [e]; exact fZ_up f_g1 (by decide)
        clear e
        exact f_g2
    · exact f_g0
  · unfold dn98
    refine oS_dl ?_
    exact f_g0
theorem fn100_z {x : List Int} {g0 : rHp} : fZ g0 (fn100 x g0).2.2 := by
  have f_g0 : fZ g0 g0 := fZ_refl
  show oP (fun h => fZ g0 h) (fn100 x g0)
  unfold fn100
  refine oP_dl ?_
  refine oP_dl ?_
  refine oP_ite (fun hb => ?_) (fun hb => ?_)
  · exact f_g0
  · exact f_g0
theorem fn101_z {x : List Int} {g0 : rHp} : fZ g0 (fn101 x g0).2.2 := by
  have f_g0 : fZ g0 g0 := fZ_refl
  show oP (fun h => fZ g0 h) (fn101 x g0)
  unfold fn101
  refine oP_dl ?_
  refine oP_dl ?_
  refine oP_ite (fun hb => ?_) (fun hb => ?_)
  · exact f_g0
  · exact f_g0
theorem fn131_z {x : List Int} {g0 : rHp} : fZ g0 (fn131 x g0).2.2 := by
  have f_g0 : fZ g0 g0 := fZ_refl
  show oP (fun h => fZ g0 h) (fn131 x g0)
  unfold fn131
  refine oP_dl ?_
  refine oP_dl ?_
  exact f_g0
theorem fn132_z {x : List Int} {g0 : rHp} : fZ g0 (fn132 x g0).2.2 := by
  have f_g0 : fZ g0 g0 := fZ_refl
  show oP (fun h => fZ g0 h) (fn132 x g0)
  unfold fn132
  refine oP_dl ?_
  refine oP_dl ?_
  exact f_g0
theorem fn172_z {x : List Int} {g0 : rHp} : fZ g0 (fn172 x g0).2.2 := by
  have f_g0 : fZ g0 g0 := fZ_refl
  show oP (fun h => fZ g0 h) (fn172 x g0)
  unfold fn172
  refine oP_dl ?_
  refine oP_ite (fun hb => ?_) (fun hb => ?_)
  · exact f_g0
  · exact f_g0
theorem fn187_z {x : List Int} {g0 : rHp} : fZ g0 (fn187 x g0).2.2 := by
  have f_g0 : fZ g0 g0 := fZ_refl
  show oP (fun h => fZ g0 h) (fn187 x g0)
  unfold fn187
  refine oP_dl ?_
  refine oP_dl ?_
  refine oP_dl ?_
  refine oP_dl ?_
  exact f_g0
theorem fn188_z {x : List Int} {g0 : rHp} : fZ g0 (fn188 x g0).2.2 := by
  have f_g0 : fZ g0 g0 := fZ_refl
  show oP (fun h => fZ g0 h) (fn188 x g0)
  unfold fn188
  refine oP_dl ?_
  refine oP_ite (fun hb => ?_) (fun hb => ?_)
  · exact f_g0
  · refine oP_ite (fun hb => ?_) (fun hb => ?_)
    · exact f_g0
    · refine oP_dl ?_
      exact f_g0
theorem fn189_z {x : List Int} {g0 : rHp} : fZ g0 (fn189 x g0).2.2 := by
  have f_g0 : fZ g0 g0 := fZ_refl
  show oP (fun h => fZ g0 h) (fn189 x g0)
  unfold fn189
  refine oP_dl ?_
  refine oP_dl ?_
  refine oP_dl ?_
  refine oP_dl ?_
  refine oP_ite (fun hb => ?_) (fun hb => ?_)
  · exact f_g0
  · refine oP_ite (fun hb => ?_) (fun hb => ?_)
    · refine oP_let fun g1 e => ?_
      have f_g1 : fZ g0 g1 := by rw [e]; exact fZ_up f_g0 (by decide)
      clear e
      refine oP_dl ?_
      refine oP_ite (fun hb => ?_) (fun hb => ?_)
      · refine oP_dl ?_
        refine oP_let fun g2 e => ?_
        have f_g2 : fZ g0 g2 := by rw [e]; exact fZ_up f_g1 (by decide)
        clear e
        refine oP_let fun g3 e => ?_
        have f_g3 : fZ g0 g3 := by rw [e]; exact fZ_up f_g2 (by decide)
        clear e
        exact f_g3
      · refine oP_let fun g2 e => ?_
        have f_g2 : fZ g0 g2 := by rw [e]; exact fZ_up f_g1 (by decide)
        clear e
        refine oP_let fun g3 e => ?_
        have f_g3 : fZ g0 g3 := by rw [e]; exact fZ_up f_g2 (by decide)
        clear e
        exact f_g3
    · exact f_g0
theorem fn191_z {x : List Int} {g0 : rHp} : fZ g0 (fn191 x g0).2.2 := by
  have f_g0 : fZ g0 g0 := fZ_refl
  show oP (fun h => fZ g0 h) (fn191 x g0)
  unfold fn191
  refine oP_dl ?_
  refine oP_dl ?_
  refine oP_dl ?_
  refine oP_dl ?_
  exact f_g0
theorem fn192_z {x : List Int} {g0 : rHp} : fZ g0 (fn192 x g0).2.2 := by
  have f_g0 : fZ g0 g0 := fZ_refl
  show oP (fun h => fZ g0 h) (fn192 x g0)
  unfold fn192
  refine oP_dl ?_
  refine oP_ite (fun hb => ?_) (fun hb => ?_)
  · exact f_g0
  · refine oP_ite (fun hb => ?_) (fun hb => ?_)
    · exact f_g0
    · refine oP_dl ?_
      exact f_g0
theorem fn193_z {x : List Int} {g0 : rHp} : fZ g0 (fn193 x g0).2.2 := by
  have f_g0 : fZ g0 g0 := fZ_refl
  show oP (fun h => fZ g0 h) (fn193 x g0)
  unfold fn193
  refine oP_dl ?_
  refine oP_dl ?_
  refine oP_dl ?_
  refine oP_dl ?_
  refine oP_ite (fun hb => ?_) (fun hb => ?_)
  · exact f_g0
  · refine oP_ite (fun hb => ?_) (fun hb => ?_)
    · refine oP_let fun g1 e => ?_
      have f_g1 : fZ g0 g1 := by rw [e]; exact fZ_up f_g0 (by decide)
      clear e
      refine oP_dl ?_
      refine oP_ite (fun hb => ?_) (fun hb => ?_)
      · refine oP_dl ?_
        refine oP_let fun g2 e => ?_
        have f_g2 : fZ g0 g2 := by rw [e]; exact fZ_up f_g1 (by decide)
        clear e
        refine oP_let fun g3 e => ?_
        have f_g3 : fZ g0 g3 := by rw [e]; exact fZ_up f_g2 (by decide)
        clear e
        exact f_g3
      · refine oP_let fun g2 e => ?_
        have f_g2 : fZ g0 g2 := by rw [e]; exact fZ_up f_g1 (by decide)
        clear e
        refine oP_let fun g3 e => ?_
        have f_g3 : fZ g0 g3 := by rw [e]; exact fZ_up f_g2 (by decide)
        clear e
        exact f_g3
    · exact f_g0
theorem fn195_z {x : List Int} {g0 : rHp} : fZ g0 (fn195 x g0).2.2 := by
  have f_g0 : fZ g0 g0 := fZ_refl
  show oP (fun h => fZ g0 h) (fn195 x g0)
  unfold fn195
  refine oP_dl ?_
  refine oP_dl ?_
  refine oP_dl ?_
  refine oP_dl ?_
  exact f_g0
theorem fn196_z {x : List Int} {g0 : rHp} : fZ g0 (fn196 x g0).2.2 := by
  have f_g0 : fZ g0 g0 := fZ_refl
  show oP (fun h => fZ g0 h) (fn196 x g0)
  unfold fn196
  refine oP_dl ?_
  refine oP_ite (fun hb => ?_) (fun hb => ?_)
  · exact f_g0
  · refine oP_ite (fun hb => ?_) (fun hb => ?_)
    · exact f_g0
    · refine oP_dl ?_
      exact f_g0
theorem fn197_z {x : List Int} {g0 : rHp} : fZ g0 (fn197 x g0).2.2 := by
  have f_g0 : fZ g0 g0 := fZ_refl
  show oP (fun h => fZ g0 h) (fn197 x g0)
  unfold fn197
  refine oP_dl ?_
  refine oP_dl ?_
  refine oP_dl ?_
  refine oP_dl ?_
  refine oP_ite (fun hb => ?_) (fun hb => ?_)
  · exact f_g0
  · refine oP_ite (fun hb => ?_) (fun hb => ?_)
    · refine oP_let fun g1 e => ?_
      have f_g1 : fZ g0 g1 := by rw [e]; exact fZ_up f_g0 (by decide)
      clear e
      refine oP_dl ?_
      refine oP_ite (fun hb => ?_) (fun hb => ?_)
      · refine oP_dl ?_
        refine oP_let fun g2 e => ?_
        have f_g2 : fZ g0 g2 := by rw [e]; exact fZ_up f_g1 (by decide)
        clear e
        refine oP_let fun g3 e => ?_
        have f_g3 : fZ g0 g3 := by rw [e]; exact fZ_up f_g2 (by decide)
        clear e
        exact f_g3
      · refine oP_let fun g2 e => ?_
        have f_g2 : fZ g0 g2 := by rw [e]; exact fZ_up f_g1 (by decide)
        clear e
        refine oP_let fun g3 e => ?_
        have f_g3 : fZ g0 g3 := by rw [e]; exact fZ_up f_g2 (by decide)
        clear e
        exact f_g3
    · exact f_g0
theorem fn199_z {x : List Int} {g0 : rHp} : fZ g0 (fn199 x g0).2.2 := by
  have f_g0 : fZ g0 g0 := fZ_refl
  show oP (fun h => fZ g0 h) (fn199 x g0)
  unfold fn199
  refine oP_dl ?_
  refine oP_dl ?_
  refine oP_dl ?_
  refine oP_dl ?_
  exact f_g0
theorem fn200_z {x : List Int} {g0 : rHp} : fZ g0 (fn200 x g0).2.2 := by
  have f_g0 : fZ g0 g0 := fZ_refl
  show oP (fun h => fZ g0 h) (fn200 x g0)
  unfold fn200
  refine oP_dl ?_
  refine oP_ite (fun hb => ?_) (fun hb => ?_)
  · exact f_g0
  · refine oP_ite (fun hb => ?_) (fun hb => ?_)
    · exact f_g0
    · refine oP_dl ?_
      exact f_g0
theorem fn201_z {x : List Int} {g0 : rHp} : fZ g0 (fn201 x g0).2.2 := by
  have f_g0 : fZ g0 g0 := fZ_refl
  show oP (fun h => fZ g0 h) (fn201 x g0)
  unfold fn201
  refine oP_dl ?_
  refine oP_dl ?_
  refine oP_dl ?_
  refine oP_dl ?_
  refine oP_ite (fun hb => ?_) (fun hb => ?_)
  · exact f_g0
  · refine oP_ite (fun hb => ?_) (fun hb => ?_)
    · refine oP_let fun g1 e => ?_
      have f_g1 : fZ g0 g1 := by rw [e]; exact fZ_up f_g0 (by decide)
      clear e
      refine oP_dl ?_
      refine oP_ite (fun hb => ?_) (fun hb => ?_)
      · refine oP_dl ?_
        refine oP_let fun g2 e => ?_
        have f_g2 : fZ g0 g2 := by rw [e]; exact fZ_up f_g1 (by decide)
        clear e
        refine oP_let fun g3 e => ?_
        have f_g3 : fZ g0 g3 := by rw [e]; exact fZ_up f_g2 (by decide)
        clear e
        exact f_g3
      · refine oP_let fun g2 e => ?_
        have f_g2 : fZ g0 g2 := by rw [e]; exact fZ_up f_g1 (by decide)
        clear e
        refine oP_let fun g3 e => ?_
        have f_g3 : fZ g0 g3 := by rw [e]; exact fZ_up f_g2 (by decide)
        clear e
        exact f_g3
    · exact f_g0
theorem fn203_z {x : List Int} {g0 : rHp} : fZ g0 (fn203 x g0).2.2 := by
  have f_g0 : fZ g0 g0 := fZ_refl
  refine zGoo_P (I := fun s => fZ g0 s.2.2) fZ_zero (fun s hs => ?_) ?_
  · unfold en203
    refine oS_ite (fun hb => ?_) (fun hb => ?_)
    · refine oS_let fun g1 e => ?_
      have f_g1 : fZ g0 g1 := by rw [e]; exact hs
      clear e
      refine oS_dl ?_
      refine oS_dl ?_
      refine oS_dl ?_
      refine oS_ite (fun hb => ?_) (fun hb => ?_)
      · exact f_g1
      · refine oS_dl ?_
        refine oS_dl ?_
        refine oS_dl ?_
        exact f_g1
    · exact f_g0
  · unfold dn203
    refine oS_dl ?_
    exact f_g0
theorem fn204_z {x : List Int} {g0 : rHp} : fZ g0 (fn204 x g0).2.2 := by
  have f_g0 : fZ g0 g0 := fZ_refl
  show oP (fun h => fZ g0 h) (fn204 x g0)
  unfold fn204
  refine oP_dl ?_
  refine oP_dl ?_
  refine oP_dl ?_
  refine oP_dl ?_
  refine oP_dl ?_
  refine oP_dl ?_
  refine oP_dl ?_
  exact f_g0
theorem fn205_z {x : List Int} {g0 : rHp} : fZ g0 (fn205 x g0).2.2 := by
  have f_g0 : fZ g0 g0 := fZ_refl
  refine zGoo_P (I := fun s => fZ g0 s.2.2) fZ_zero (fun s hs => ?_) ?_
  · unfold en205
    refine oS_ite (fun hb => ?_) (fun hb => ?_)
    · refine oS_let fun g1 e => ?_
      have f_g1 : fZ g0 g1 := by rw [e]; exact hs
      clear e
      refine oS_dl ?_
      refine oS_dl ?_
      refine oS_ite (fun hb => ?_) (fun hb => ?_)
      · exact f_g1
      · refine oS_dl ?_
        refine oS_dl ?_
        refine oS_ite (fun hb => ?_) (fun hb => ?_)
        · exact f_g1
        · exact f_g1
    · exact f_g0
  · unfold dn205
    refine oS_dl ?_
    exact f_g0
theorem fn214_z {x : List Int} {g0 : rHp} : fZ g0 (fn214 x g0).2.2 := by
  have f_g0 : fZ g0 g0 := fZ_refl
  refine zGoo_P (I := fun s => fZ g0 s.2.2) fZ_zero (fun s hs => ?_) ?_
  · unfold en214
    refine oS_ite (fun hb => ?_) (fun hb => ?_)
    · refine oS_let fun g1 e => ?_
      have f_g1 : fZ g0 g1 := by rw [e]; exact hs
      clear e
      refine oS_dl ?_
      refine oS_dl ?_
      refine oS_ite (fun hb => ?_) (fun hb => ?_)
      · exact f_g1
      · refine oS_dl ?_
        refine oS_dl ?_
        refine oS_dl ?_
        exact f_g1
    · exact f_g0
  · unfold dn214
    exact f_g0
theorem fn215_z {x : List Int} {g0 : rHp} : fZ g0 (fn215 x g0).2.2 := by
  have f_g0 : fZ g0 g0 := fZ_refl
  refine zGoo_P (I := fun s => fZ g0 s.2.2) fZ_zero (fun s hs => ?_) ?_
  · unfold en215
    refine oS_ite (fun hb => ?_) (fun hb => ?_)
    · refine oS_let fun g1 e => ?_
      have f_g1 : fZ g0 g1 := by rw [e]; exact hs
      clear e
      refine oS_dl ?_
      refine oS_dl ?_
      refine oS_ite (fun hb => ?_) (fun hb => ?_)
      · exact f_g1
      · refine oS_dl ?_
        refine oS_dl ?_
        refine oS_ite (fun hb => ?_) (fun hb => ?_)
        · exact f_g1
        · exact f_g1
    · exact f_g0
  · unfold dn215
    refine oS_dl ?_
    exact f_g0
theorem fn217_z {x : List Int} {g0 : rHp} : fZ g0 (fn217 x g0).2.2 := by
  have f_g0 : fZ g0 g0 := fZ_refl
  show oP (fun h => fZ g0 h) (fn217 x g0)
  unfold fn217
  refine oP_dl ?_
  refine oP_dl ?_
  refine oP_dl ?_
  refine oP_let fun g1 e => ?_
  have f_g1 : fZ g0 g1 := by rw [e]; exact fZ_up f_g0 (by decide)
  clear e
  refine oP_let fun g2 e => ?_
  have f_g2 : fZ g0 g2 := by rw [e]; exact fZ_up f_g1 (by decide)
  clear e
  exact f_g2
theorem fn224_z {x : List Int} {g0 : rHp} : fZ g0 (fn224 x g0).2.2 := by
  have f_g0 : fZ g0 g0 := fZ_refl
  show oP (fun h => fZ g0 h) (fn224 x g0)
  unfold fn224
  refine oP_dl ?_
  refine oP_dl ?_
  refine oP_dl ?_
  refine oP_ite (fun hb => ?_) (fun hb => ?_)
  · refine oP_dl ?_
    exact f_g0
  · refine oP_dl ?_
    refine oP_dl ?_
    exact f_g0
theorem fn232_z {x : List Int} {g0 : rHp} : fZ g0 (fn232 x g0).2.2 := by
  have f_g0 : fZ g0 g0 := fZ_refl
  show oP (fun h => fZ g0 h) (fn232 x g0)
  unfold fn232
  refine oP_dl ?_
  refine oP_dl ?_
  refine oP_dl ?_
  refine oP_dl ?_
  refine oP_let fun g1 e => ?_
  have f_g1 : fZ g0 g1 := by rw [e]; exact fZ_up f_g0 (by decide)
  clear e
  refine oP_ite (fun hb => ?_) (fun hb => ?_)
  · refine oP_let fun g2 e => ?_
    have f_g2 : fZ g0 g2 := by rw [e]; exact fZ_up f_g1 (by decide)
    clear e
    exact f_g2
  · exact f_g1
theorem fn234_z {x : List Int} {g0 : rHp} : fZ g0 (fn234 x g0).2.2 := by
  have f_g0 : fZ g0 g0 := fZ_refl
  show oP (fun h => fZ g0 h) (fn234 x g0)
  unfold fn234
  refine oP_dl ?_
  refine oP_dl ?_
  refine oP_dl ?_
  refine oP_dl ?_
  refine oP_ite (fun hb => ?_) (fun hb => ?_)
  · exact f_g0
  · exact f_g0
theorem fn238_z {x : List Int} {g0 : rHp} : fZ g0 (fn238 x g0).2.2 := by
  have f_g0 : fZ g0 g0 := fZ_refl
  show oP (fun h => fZ g0 h) (fn238 x g0)
  unfold fn238
  refine oP_dl ?_
  refine oP_dl ?_
  refine oP_dl ?_
  refine oP_let fun g1 e => ?_
  have f_g1 : fZ g0 g1 := by rw [e]; exact fZ_up f_g0 (by decide)
  clear e
  refine oP_let fun g2 e => ?_
  have f_g2 : fZ g0 g2 := by rw [e]; exact fZ_up f_g1 (by decide)
  clear e
  refine oP_let fun g3 e => ?_
  have f_g3 : fZ g0 g3 := by rw [e]; exact fZ_up f_g2 (by decide)
  clear e
  refine oP_let fun g4 e => ?_
  have f_g4 : fZ g0 g4 := by rw [e]; exact fZ_up f_g3 (by decide)
  clear e
  refine oP_let fun g5 e => ?_
  have f_g5 : fZ g0 g5 := by rw [e]; exact fZ_up f_g4 (by decide)
  clear e
  exact f_g5
theorem fn239_z {x : List Int} {g0 : rHp} : fZ g0 (fn239 x g0).2.2 := by
  have f_g0 : fZ g0 g0 := fZ_refl
  show oP (fun h => fZ g0 h) (fn239 x g0)
  unfold fn239
  refine oP_dl ?_
  refine oP_dl ?_
  refine oP_dl ?_
  refine oP_let fun g1 e => ?_
  have f_g1 : fZ g0 g1 := by rw [e]; exact fZ_up f_g0 (by decide)
  clear e
  refine oP_let fun g2 e => ?_
  have f_g2 : fZ g0 g2 := by rw [e]; exact fZ_up f_g1 (by decide)
  clear e
  refine oP_let fun g3 e => ?_
  have f_g3 : fZ g0 g3 := by rw [e]; exact fZ_up f_g2 (by decide)
  clear e
  refine oP_let fun g4 e => ?_
  have f_g4 : fZ g0 g4 := by rw [e]; exact fZ_up f_g3 (by decide)
  clear e
  refine oP_let fun g5 e => ?_
  have f_g5 : fZ g0 g5 := by rw [e]; exact fZ_up f_g4 (by decide)
  clear e
  exact f_g5
theorem fn240_z {x : List Int} {g0 : rHp} : fZ g0 (fn240 x g0).2.2 := by
  have f_g0 : fZ g0 g0 := fZ_refl
  show oP (fun h => fZ g0 h) (fn240 x g0)
  unfold fn240
  refine oP_dl ?_
  refine oP_dl ?_
  refine oP_dl ?_
  refine oP_let fun g1 e => ?_
  have f_g1 : fZ g0 g1 := by rw [e]; exact fZ_up f_g0 (by decide)
  clear e
  refine oP_let fun g2 e => ?_
  have f_g2 : fZ g0 g2 := by rw [e]; exact fZ_up f_g1 (by decide)
  clear e
  refine oP_let fun g3 e => ?_
  have f_g3 : fZ g0 g3 := by rw [e]; exact fZ_up f_g2 (by decide)
  clear e
  refine oP_let fun g4 e => ?_
  have f_g4 : fZ g0 g4 := by rw [e]; exact fZ_up f_g3 (by decide)
  clear e
  refine oP_let fun g5 e => ?_
  have f_g5 : fZ g0 g5 := by rw [e]; exact fZ_up f_g4 (by decide)
  clear e
  exact f_g5
theorem fn242_z {x : List Int} {g0 : rHp} : fZ g0 (fn242 x g0).2.2 := by
  have f_g0 : fZ g0 g0 := fZ_refl
  show oP (fun h => fZ g0 h) (fn242 x g0)
  unfold fn242
  refine oP_dl ?_
  refine oP_dl ?_
  refine oP_ite (fun hb => ?_) (fun hb => ?_)
  · refine oP_let fun g1 e => ?_
    have f_g1 : fZ g0 g1 := by rw [e]; exact fZ_up f_g0 (by decide)
    clear e
    exact f_g1
  · refine oP_let fun g1 e => ?_
    have f_g1 : fZ g0 g1 := by rw [e]; exact fZ_cp f_g0 (by decide)
    clear e
    refine oP_let fun g2 e => ?_
    have f_g2 : fZ g0 g2 := by rw [e]; exact fZ_up f_g1 (by decide)
    clear e
    exact f_g2
theorem fn186_z {x : List Int} {g0 : rHp} : fZ g0 (fn186 x g0).2.2 := by
  have f_g0 : fZ g0 g0 := fZ_refl
  show oP (fun h => fZ g0 h) (fn186 x g0)
  unfold fn186
  refine oP_let fun p0 e_p0 => ?_
  refine oP_let fun g1 e => ?_
  have f_g1 : fZ g0 g1 := by rw [e, e_p0]; exact fZ_tr f_g0 fn95_z
  clear e
  exact f_g1
theorem fn190_z {x : List Int} {g0 : rHp} : fZ g0 (fn190 x g0).2.2 := by
  have f_g0 : fZ g0 g0 := fZ_refl
  show oP (fun h => fZ g0 h) (fn190 x g0)
  unfold fn190
  refine oP_let fun p0 e_p0 => ?_
  refine oP_let fun g1 e => ?_
  have f_g1 : fZ g0 g1 := by rw [e, e_p0]; exact fZ_tr f_g0 fn96_z
  clear e
  exact f_g1
theorem fn194_z {x : List Int} {g0 : rHp} : fZ g0 (fn194 x g0).2.2 := by
  have f_g0 : fZ g0 g0 := fZ_refl
  show oP (fun h => fZ g0 h) (fn194 x g0)
  unfold fn194
  refine oP_let fun p0 e_p0 => ?_
  refine oP_let fun g1 e => ?_
  have f_g1 : fZ g0 g1 := by rw [e, e_p0]; exact fZ_tr f_g0 fn97_z
  clear e
  exact f_g1
theorem fn198_z {x : List Int} {g0 : rHp} : fZ g0 (fn198 x g0).2.2 := by
  have f_g0 : fZ g0 g0 := fZ_refl
  show oP (fun h => fZ g0 h) (fn198 x g0)
  unfold fn198
  refine oP_let fun p0 e_p0 => ?_
  refine oP_let fun g1 e => ?_
  have f_g1 : fZ g0 g1 := by rw [e, e_p0]; exact fZ_tr f_g0 fn98_z
  clear e
  exact f_g1
theorem fn222_z {x : List Int} {g0 : rHp} : fZ g0 (fn222 x g0).2.2 := by
  have f_g0 : fZ g0 g0 := fZ_refl
  refine zGoo_P (I := fun s => fZ g0 s.2.2) fZ_zero (fun s hs => ?_) ?_
  · unfold en222
    refine oS_ite (fun hb => ?_) (fun hb => ?_)
    · refine oS_let fun g1 e => ?_
      have f_g1 : fZ g0 g1 := by rw [e]; exact hs
      clear e
      refine oS_dl ?_
      refine oS_dl ?_
      refine oS_dl ?_
      refine oS_dl ?_
      refine oS_dl ?_
      refine oS_ite (fun hb => ?_) (fun hb => ?_)
      · exact f_g1
      · refine oS_let fun p1 e_p1 => ?_
        refine oS_let fun g2 e => ?_
        have f_g2 : fZ g0 g2 := by rw [e, e_p1]; exact fZ_tr f_g1 fn132_z
        clear e
        refine oS_dl ?_
        refine oS_ite (fun hb => ?_) (fun hb => ?_)
        · refine oS_ite (fun hb => ?_) (fun hb => ?_)
          · refine oS_dl ?_
            refine oS_dl ?_
            refine oS_let fun p2 e_p2 => ?_
            refine oS_let fun g3 e => ?_
            have f_g3 : fZ g0 g3 := by rw [e, e_p2]; exact fZ_tr f_g2 fn101_z
            clear e
            refine oS_ite (fun hb => ?_) (fun hb => ?_)
            · exact f_g3
            · exact f_g3
          · refine oS_dl ?_
            refine oS_dl ?_
            refine oS_let fun p2 e_p2 => ?_
            refine oS_let fun g3 e => ?_
            have f_g3 : fZ g0 g3 := by rw [e, e_p2]; exact fZ_tr f_g2 fn101_z
            clear e
            refine oS_ite (fun hb => ?_) (fun hb => ?_)
            · exact f_g3
            · exact f_g3
        · refine oS_ite (fun hb => ?_) (fun hb => ?_)
          · exact f_g2
          · refine oS_dl ?_
            refine oS_dl ?_
            refine oS_let fun p2 e_p2 => ?_
            refine oS_let fun g3 e => ?_
            have f_g3 : fZ g0 g3 := by rw [e, e_p2]; exact fZ_tr f_g2 fn101_z
            clear e
            refine oS_ite (fun hb => ?_) (fun hb => ?_)
            · exact f_g3
            · exact f_g3
    · exact f_g0
  · unfold dn222
    refine oS_dl ?_
    exact f_g0
theorem fn218_z {x : List Int} {g0 : rHp} : fZ g0 (fn218 x g0).2.2 := by
  have f_g0 : fZ g0 g0 := fZ_refl
  show oP (fun h => fZ g0 h) (fn218 x g0)
  unfold fn218
  refine oP_dl ?_
  refine oP_dl ?_
  refine oP_let fun g1 e => ?_
  have f_g1 : fZ g0 g1 := by rw [e]; exact fZ_up f_g0 (by decide)
  clear e
  refine oP_let fun p1 e_p1 => ?_
  refine oP_let fun g2 e => ?_
  have f_g2 : fZ g0 g2 := by rw [e, e_p1]; exact fZ_tr f_g1 fn172_z
  clear e
  refine oP_ite (fun hb => ?_) (fun hb => ?_)
  · refine oP_dl ?_
    refine oP_dl ?_
    refine oP_dl ?_
    refine oP_let fun g3 e => ?_
    have f_g3 : fZ g0 g3 := by rw [e]; exact fZ_up f_g2 (by decide)
    clear e
    exact f_g3
  · exact f_g2
theorem fn219_z {x : List Int} {g0 : rHp} : fZ g0 (fn219 x g0).2.2 := by
  have f_g0 : fZ g0 g0 := fZ_refl
  show oP (fun h => fZ g0 h) (fn219 x g0)
  unfold fn219
  refine oP_dl ?_
  refine oP_dl ?_
  refine oP_let fun p0 e_p0 => ?_
  refine oP_let fun g1 e => ?_
  have f_g1 : fZ g0 g1 := by rw [e, e_p0]; exact fZ_tr f_g0 fn172_z
  clear e
  refine oP_ite (fun hb => ?_) (fun hb => ?_)
  · refine oP_dl ?_
    refine oP_ite (fun hb => ?_) (fun hb => ?_)
    · refine oP_dl ?_
      refine oP_let fun g2 e => ?_
      have f_g2 : fZ g0 g2 := by rw [e]; exact fZ_up f_g1 (by decide)
      clear e
      refine oP_let fun g3 e => ?_
      have f_g3 : fZ g0 g3 := by rw [e]; exact fZ_up f_g2 (by decide)
      clear e
      exact f_g3
    · refine oP_dl ?_
      refine oP_dl ?_
      refine oP_let fun p1 e_p1 => ?_
      refine oP_let fun g2 e => ?_
      have f_g2 : fZ g0 g2 := by rw [e, e_p1]; exact fZ_tr f_g1 fn100_z
      clear e
      refine oP_ite (fun hb => ?_) (fun hb => ?_)
      · refine oP_let fun g3 e => ?_
        have f_g3 : fZ g0 g3 := by rw [e]; exact fZ_up f_g2 (by decide)
        clear e
        refine oP_let fun g4 e => ?_
        have f_g4 : fZ g0 g4 := by rw [e]; exact fZ_up f_g3 (by decide)
        clear e
        exact f_g4
      · refine oP_let fun g3 e => ?_
        have f_g3 : fZ g0 g3 := by rw [e]; exact fZ_up f_g2 (by decide)
        clear e
        refine oP_let fun g4 e => ?_
        have f_g4 : fZ g0 g4 := by rw [e]; exact fZ_up f_g3 (by decide)
        clear e
        exact f_g4
  · exact f_g1
theorem fn220_z {x : List Int} {g0 : rHp} : fZ g0 (fn220 x g0).2.2 := by
  have f_g0 : fZ g0 g0 := fZ_refl
  show oP (fun h => fZ g0 h) (fn220 x g0)
  unfold fn220
  refine oP_dl ?_
  refine oP_dl ?_
  refine oP_let fun p0 e_p0 => ?_
  refine oP_let fun g1 e => ?_
  have f_g1 : fZ g0 g1 := by rw [e, e_p0]; exact fZ_tr f_g0 fn172_z
  clear e
  refine oP_ite (fun hb => ?_) (fun hb => ?_)
  · refine oP_dl ?_
    refine oP_ite (fun hb => ?_) (fun hb => ?_)
    · refine oP_dl ?_
      refine oP_let fun g2 e => ?_
      have f_g2 : fZ g0 g2 := by rw [e]; exact fZ_up f_g1 (by decide)
      clear e
      refine oP_let fun g3 e => ?_
      have f_g3 : fZ g0 g3 := by rw [e]; exact fZ_up f_g2 (by decide)
      clear e
      exact f_g3
    · refine oP_dl ?_
      refine oP_dl ?_
      refine oP_let fun p1 e_p1 => ?_
      refine oP_let fun g2 e => ?_
      have f_g2 : fZ g0 g2 := by rw [e, e_p1]; exact fZ_tr f_g1 fn101_z
      clear e
      refine oP_ite (fun hb => ?_) (fun hb => ?_)
      · refine oP_let fun g3 e => ?_
        have f_g3 : fZ g0 g3 := by rw [e]; exact fZ_up f_g2 (by decide)
        clear e
        refine oP_let fun g4 e => ?_
        have f_g4 : fZ g0 g4 := by rw [e]; exact fZ_up f_g3 (by decide)
        clear e
        exact f_g4
      · refine oP_let fun g3 e => ?_
        have f_g3 : fZ g0 g3 := by rw [e]; exact fZ_up f_g2 (by decide)
        clear e
        refine oP_let fun g4 e => ?_
        have f_g4 : fZ g0 g4 := by rw [e]; exact fZ_up f_g3 (by decide)
        clear e
        exact f_g4
  · exact f_g1
theorem fn208_z {x : List Int} {g0 : rHp} : fZ g0 (fn208 x g0).2.2 := by
  have f_g0 : fZ g0 g0 := fZ_refl
  refine zGoo_P (I := fun s => fZ g0 s.2.2) fZ_zero (fun s hs => ?_) ?_
  · unfold en208
    refine oS_ite (fun hb => ?_) (fun hb => ?_)
    · refine oS_let fun g1 e => ?_
      have f_g1 : fZ g0 g1 := by rw [e]; exact hs
      clear e
      refine oS_dl ?_
      refine oS_dl ?_
      refine oS_dl ?_
      refine oS_dl ?_
      refine oS_ite (fun hb => ?_) (fun hb => ?_)
      · exact f_g1
      · refine oS_dl ?_
        refine oS_ite (fun hb => ?_) (fun hb => ?_)
        · exact f_g1
        · exact f_g1
    · exact f_g0
  · unfold dn208
    refine oS_dl ?_
    refine oS_dl ?_
    refine oS_ite (fun hb => ?_) (fun hb => ?_)
    · exact f_g0
    · refine oS_let fun p0 e_p0 => ?_
      refine oS_let fun g1 e => ?_
      have f_g1 : fZ g0 g1 := by rw [e, e_p0]; exact fZ_tr f_g0 fn187_z
      clear e
      refine oS_dl ?_
      exact f_g1
theorem fn209_z {x : List Int} {g0 : rHp} : fZ g0 (fn209 x g0).2.2 := by
  have f_g0 : fZ g0 g0 := fZ_refl
  show oP (fun h => fZ g0 h) (fn209 x g0)
  unfold fn209
  refine oP_dl ?_
  refine oP_let fun p0 e_p0 => ?_
  refine oP_let fun g1 e => ?_
  have f_g1 : fZ g0 g1 := by rw [e, e_p0]; exact fZ_tr f_g0 fn188_z
  clear e
  refine oP_dl ?_
  exact f_g1
theorem fn210_z {x : List Int} {g0 : rHp} : fZ g0 (fn210 x g0).2.2 := by
  have f_g0 : fZ g0 g0 := fZ_refl
  refine zGoo_P (I := fun s => fZ g0 s.2.2) fZ_zero (fun s hs => ?_) ?_
  · unfold en210
    refine oS_ite (fun hb => ?_) (fun hb => ?_)
    · refine oS_let fun g1 e => ?_
      have f_g1 : fZ g0 g1 := by rw [e]; exact hs
      clear e
      refine oS_dl ?_
      refine oS_dl ?_
      refine oS_dl ?_
      refine oS_dl ?_
      refine oS_ite (fun hb => ?_) (fun hb => ?_)
      · exact f_g1
      · refine oS_ite (fun hb => ?_) (fun hb => ?_)
        · exact f_g1
        · refine oS_dl ?_
          refine oS_ite (fun hb => ?_) (fun hb => ?_)
          · refine oS_let fun p1 e_p1 => ?_
            refine oS_let fun g2 e => ?_
            have f_g2 : fZ g0 g2 := by rw [e, e_p1]; exact fZ_tr f_g1 fn192_z
            clear e
            refine oS_dl ?_
            exact f_g2
          · refine oS_dl ?_
            exact f_g1
    · exact f_g0
  · unfold dn210
    refine oS_dl ?_
    refine oS_dl ?_
    exact f_g0
theorem fn207_z {x : List Int} {g0 : rHp} : fZ g0 (fn207 x g0).2.2 := by
  have f_g0 : fZ g0 g0 := fZ_refl
  refine zGoo_P (I := fun s => fZ g0 s.2.2) fZ_zero (fun s hs => ?_) ?_
  · unfold en207
    refine oS_ite (fun hb => ?_) (fun hb => ?_)
    · refine oS_let fun g1 e => ?_
      have f_g1 : fZ g0 g1 := by rw [e]; exact hs
      clear e
      refine oS_dl ?_
      refine oS_dl ?_
      refine oS_dl ?_
      refine oS_dl ?_
      refine oS_dl ?_
      refine oS_ite (fun hb => ?_) (fun hb => ?_)
      · refine oS_let fun g2 e => ?_
        have f_g2 : fZ g0 g2 := by rw [e]; exact fZ_up f_g1 (by decide)
        clear e
        exact f_g2
      · refine oS_dl ?_
        refine oS_let fun g2 e => ?_
        have f_g2 : fZ g0 g2 := by rw [e]; exact fZ_up f_g1 (by decide)
        clear e
        refine oS_let fun p2 e_p2 => ?_
        refine oS_let fun g3 e => ?_
        have f_g3 : fZ g0 g3 := by rw [e, e_p2]; exact fZ_tr f_g2 fn204_z
        clear e
        refine oS_dl ?_
        refine oS_let fun p3 e_p3 => ?_
        refine oS_let fun g4 e => ?_
        have f_g4 : fZ g0 g4 := by rw [e, e_p3]; exact fZ_tr f_g3 fn193_z
        clear e
        exact f_g4
    · exact f_g0
  · unfold dn207
    refine oS_dl ?_
    refine oS_dl ?_
    refine oS_dl ?_
    refine oS_dl ?_
    refine oS_ite (fun hb => ?_) (fun hb => ?_)
    · refine oS_let fun g1 e => ?_
      have f_g1 : fZ g0 g1 := by rw [e]; exact fZ_up f_g0 (by decide)
      clear e
      refine oS_let fun g2 e => ?_
      have f_g2 : fZ g0 g2 := by rw [e]; exact fZ_up f_g1 (by decide)
      clear e
      refine oS_let fun g3 e => ?_
      have f_g3 : fZ g0 g3 := by rw [e]; exact fZ_up f_g2 (by decide)
      clear e
      refine oS_let fun g4 e => ?_
      have f_g4 : fZ g0 g4 := by rw [e]; exact fZ_up f_g3 (by decide)
      clear e
      refine oS_let fun p4 e_p4 => ?_
      refine oS_let fun g5 e => ?_
      have f_g5 : fZ g0 g5 := by rw [e, e_p4]; exact fZ_tr f_g4 fn189_z
      clear e
      refine oS_let fun p5 e_p5 => ?_
      refine oS_let fun g6 e => ?_
      have f_g6 : fZ g0 g6 := by rw [e, e_p5]; exact fZ_tr f_g5 fn203_z
      clear e
      refine oS_dl ?_
      refine oS_let fun p6 e_p6 => ?_
      refine oS_let fun g7 e => ?_
      have f_g7 : fZ g0 g7 := by rw [e, e_p6]; exact fZ_tr f_g6 fn197_z
      clear e
      exact f_g7
    · exact f_g0
theorem fn206_z {x : List Int} {g0 : rHp} : fZ g0 (fn206 x g0).2.2 := by
  have f_g0 : fZ g0 g0 := fZ_refl
  refine zGoo_P (I := fun s => fZ g0 s.2.2) fZ_zero (fun s hs => ?_) ?_
  · unfold en206
    refine oS_ite (fun hb => ?_) (fun hb => ?_)
    · refine oS_let fun g1 e => ?_
      have f_g1 : fZ g0 g1 := by rw [e]; exact hs
      clear e
      refine oS_dl ?_
      refine oS_dl ?_
      refine oS_dl ?_
      refine oS_ite (fun hb => ?_) (fun hb => ?_)
      · exact f_g1
      · refine oS_ite (fun hb => ?_) (fun hb => ?_)
        · exact f_g1
        · refine oS_dl ?_
          refine oS_ite (fun hb => ?_) (fun hb => ?_)
          · refine oS_let fun p1 e_p1 => ?_
            refine oS_let fun g2 e => ?_
            have f_g2 : fZ g0 g2 := by rw [e, e_p1]; exact fZ_tr f_g1 fn196_z
            clear e
            refine oS_dl ?_
            exact f_g2
          · refine oS_let fun p1 e_p1 => ?_
            refine oS_let fun g2 e => ?_
            have f_g2 : fZ g0 g2 := by rw [e, e_p1]; exact fZ_tr f_g1 fn205_z
            clear e
            refine oS_ite (fun hb => ?_) (fun hb => ?_)
            · exact f_g2
            · refine oS_let fun p2 e_p2 => ?_
              refine oS_let fun g3 e => ?_
              have f_g3 : fZ g0 g3 := by rw [e, e_p2]; exact fZ_tr f_g2 fn196_z
              clear e
              refine oS_dl ?_
              exact f_g3
    · exact f_g0
  · unfold dn206
    refine oS_dl ?_
    refine oS_let fun p0 e_p0 => ?_
    refine oS_let fun g1 e => ?_
    have f_g1 : fZ g0 g1 := by rw [e, e_p0]; exact fZ_tr f_g0 fn203_z
    clear e
    refine oS_dl ?_
    refine oS_let fun p1 e_p1 => ?_
    refine oS_let fun g2 e => ?_
    have f_g2 : fZ g0 g2 := by rw [e, e_p1]; exact fZ_tr f_g1 fn195_z
    clear e
    refine oS_dl ?_
    exact f_g2
theorem fn216_z {x : List Int} {g0 : rHp} : fZ g0 (fn216 x g0).2.2 := by
  have f_g0 : fZ g0 g0 := fZ_refl
  refine zGoo_P (I := fun s => fZ g0 s.2.2) fZ_zero (fun s hs => ?_) ?_
  · unfold en216
    refine oS_ite (fun hb => ?_) (fun hb => ?_)
    · refine oS_let fun g1 e => ?_
      have f_g1 : fZ g0 g1 := by rw [e]; exact hs
      clear e
      refine oS_dl ?_
      refine oS_dl ?_
      refine oS_dl ?_
      refine oS_dl ?_
      refine oS_ite (fun hb => ?_) (fun hb => ?_)
      · refine oS_ite (fun hb => ?_) (fun hb => ?_)
        · refine oS_let fun g2 e => ?_
          have f_g2 : fZ g0 g2 := by rw [e]; exact fZ_cp f_g1 (by decide)
          clear e
          refine oS_let fun g3 e => ?_
          have f_g3 : fZ g0 g3 := by rw [e]; exact fZ_up f_g2 (by decide)
          clear e
          refine oS_let fun g4 e => ?_
          have f_g4 : fZ g0 g4 := by rw [e]; exact fZ_up f_g3 (by decide)
          clear e
          refine oS_let fun p4 e_p4 => ?_
          refine oS_let fun g5 e => ?_
          have f_g5 : fZ g0 g5 := by rw [e, e_p4]; exact fZ_tr f_g4 fn201_z
          clear e
          refine oS_let fun g6 e => ?_
          have f_g6 : fZ g0 g6 := by rw [e]; exact fZ_up f_g5 (by decide)
          clear e
          exact f_g6
        · exact f_g1
      · refine oS_ite (fun hb => ?_) (fun hb => ?_)
        · refine oS_ite (fun hb => ?_) (fun hb => ?_)
          · refine oS_let fun g2 e => ?_
            have f_g2 : fZ g0 g2 := by rw [e]; exact fZ_cp f_g1 (by decide)
            clear e
            refine oS_let fun g3 e => ?_
            have f_g3 : fZ g0 g3 := by rw [e]; exact fZ_up f_g2 (by decide)
            clear e
            refine oS_let fun g4 e => ?_
            have f_g4 : fZ g0 g4 := by rw [e]; exact fZ_up f_g3 (by decide)
            clear e
            refine oS_let fun p4 e_p4 => ?_
            refine oS_let fun g5 e => ?_
            have f_g5 : fZ g0 g5 := by rw [e, e_p4]; exact fZ_tr f_g4 fn201_z
            clear e
            refine oS_let fun g6 e => ?_
            have f_g6 : fZ g0 g6 := by rw [e]; exact fZ_up f_g5 (by decide)
            clear e
            exact f_g6
          · exact f_g1
        · refine oS_let fun p1 e_p1 => ?_
          refine oS_let fun g2 e => ?_
          have f_g2 : fZ g0 g2 := by rw [e, e_p1]; exact fZ_tr f_g1 fn215_z
          clear e
          refine oS_ite (fun hb => ?_) (fun hb => ?_)
          · exact f_g2
          · refine oS_let fun p2 e_p2 => ?_
            refine oS_let fun g3 e => ?_
            have f_g3 : fZ g0 g3 := by rw [e, e_p2]; exact fZ_tr f_g2 fn200_z
            clear e
            refine oS_dl ?_
            exact f_g3
    · exact f_g0
  · unfold dn216
    refine oS_let fun p0 e_p0 => ?_
    refine oS_let fun g1 e => ?_
    have f_g1 : fZ g0 g1 := by rw [e, e_p0]; exact fZ_tr f_g0 fn214_z
    clear e
    refine oS_dl ?_
    refine oS_let fun p1 e_p1 => ?_
    refine oS_let fun g2 e => ?_
    have f_g2 : fZ g0 g2 := by rw [e, e_p1]; exact fZ_tr f_g1 fn199_z
    clear e
    refine oS_dl ?_
    exact f_g2
theorem fn225_z {x : List Int} {g0 : rHp} : fZ g0 (fn225 x g0).2.2 := by
  have f_g0 : fZ g0 g0 := fZ_refl
  refine zGoo_P (I := fun s => fZ g0 s.2.2) fZ_zero (fun s hs => ?_) ?_
  · unfold en225
    refine oS_ite (fun hb => ?_) (fun hb => ?_)
    · refine oS_let fun g1 e => ?_
      have f_g1 : fZ g0 g1 := by rw [e]; exact hs
      clear e
      refine oS_dl ?_
      refine oS_dl ?_
      refine oS_dl ?_
      refine oS_dl ?_
      refine oS_ite (fun hb => ?_) (fun hb => ?_)
      · exact f_g1
      · refine oS_dl ?_
        refine oS_dl ?_
        refine oS_ite (fun hb => ?_) (fun hb => ?_)
        · refine oS_ite (fun hb => ?_) (fun hb => ?_)
          · exact f_g1
          · refine oS_let fun p1 e_p1 => ?_
            refine oS_let fun g2 e => ?_
            have f_g2 : fZ g0 g2 := by rw [e, e_p1]; exact fZ_tr f_g1 fn224_z
            clear e
            refine oS_dl ?_
            refine oS_ite (fun hb => ?_) (fun hb => ?_)
            · exact f_g2
            · exact f_g2
        · refine oS_dl ?_
          refine oS_let fun g2 e => ?_
          have f_g2 : fZ g0 g2 := by rw [e]; exact fZ_up f_g1 (by decide)
          clear e
          exact f_g2
    · exact f_g0
  · unfold dn225
    refine oS_dl ?_
    refine oS_dl ?_
    refine oS_dl ?_
    refine oS_dl ?_
    refine oS_ite (fun hb => ?_) (fun hb => ?_)
    · exact f_g0
    · exact f_g0
theorem fn229_z {x : List Int} {g0 : rHp} : fZ g0 (fn229 x g0).2.2 := by
  have f_g0 : fZ g0 g0 := fZ_refl
  show oP (fun h => fZ g0 h) (fn229 x g0)
  unfold fn229
  refine oP_dl ?_
  refine oP_dl ?_
  refine oP_let fun p0 e_p0 => ?_
  refine oP_let fun g1 e => ?_
  have f_g1 : fZ g0 g1 := by rw [e, e_p0]; exact fZ_tr f_g0 fn224_z
  clear e
  refine oP_dl ?_
  refine oP_let fun p1 e_p1 => ?_
  refine oP_let fun g2 e => ?_
  have f_g2 : fZ g0 g2 := by rw [e, e_p1]; exact fZ_tr f_g1 fn224_z
  clear e
  refine oP_dl ?_
  refine oP_ite (fun hb => ?_) (fun hb => ?_)
  · refine oP_ite (fun hb => ?_) (fun hb => ?_)
    · exact f_g2
    · exact f_g2
  · refine oP_ite (fun hb => ?_) (fun hb => ?_)
    · exact f_g2
    · exact f_g2
theorem fn230_z {x : List Int} {g0 : rHp} : fZ g0 (fn230 x g0).2.2 := by
  have f_g0 : fZ g0 g0 := fZ_refl
  show oP (fun h => fZ g0 h) (fn230 x g0)
  unfold fn230
  refine oP_dl ?_
  refine oP_let fun p0 e_p0 => ?_
  refine oP_let fun g1 e => ?_
  have f_g1 : fZ g0 g1 := by rw [e, e_p0]; exact fZ_tr f_g0 fn224_z
  clear e
  refine oP_dl ?_
  refine oP_let fun p1 e_p1 => ?_
  refine oP_let fun g2 e => ?_
  have f_g2 : fZ g0 g2 := by rw [e, e_p1]; exact fZ_tr f_g1 fn224_z
  clear e
  refine oP_dl ?_
  refine oP_let fun p2 e_p2 => ?_
  refine oP_let fun g3 e => ?_
  have f_g3 : fZ g0 g3 := by rw [e, e_p2]; exact fZ_tr f_g2 fn172_z
  clear e
  refine oP_ite (fun hb => ?_) (fun hb => ?_)
  · refine oP_let fun p3 e_p3 => ?_
    refine oP_let fun g4 e => ?_
    have f_g4 : fZ g0 g4 := by rw [e, e_p3]; exact fZ_tr f_g3 fn172_z
    clear e
    refine oP_ite (fun hb => ?_) (fun hb => ?_)
    · refine oP_ite (fun hb => ?_) (fun hb => ?_)
      · exact f_g4
      · exact f_g4
    · exact f_g4
  · exact f_g3
theorem fn231_z {x : List Int} {g0 : rHp} : fZ g0 (fn231 x g0).2.2 := by
  have f_g0 : fZ g0 g0 := fZ_refl
  show oP (fun h => fZ g0 h) (fn231 x g0)
  unfold fn231
  refine oP_dl ?_
  refine oP_dl ?_
  refine oP_dl ?_
  refine oP_let fun p0 e_p0 => ?_
  refine oP_let fun g1 e => ?_
  have f_g1 : fZ g0 g1 := by rw [e, e_p0]; exact fZ_tr f_g0 fn224_z
  clear e
  refine oP_dl ?_
  refine oP_let fun p1 e_p1 => ?_
  refine oP_let fun g2 e => ?_
  have f_g2 : fZ g0 g2 := by rw [e, e_p1]; exact fZ_tr f_g1 fn224_z
  clear e
  refine oP_dl ?_
  refine oP_let fun p2 e_p2 => ?_
  refine oP_let fun g3 e => ?_
  have f_g3 : fZ g0 g3 := by rw [e, e_p2]; exact fZ_tr f_g2 fn172_z
  clear e
  refine oP_ite (fun hb => ?_) (fun hb => ?_)
  · refine oP_let fun p3 e_p3 => ?_
    refine oP_let fun g4 e => ?_
    have f_g4 : fZ g0 g4 := by rw [e, e_p3]; exact fZ_tr f_g3 fn172_z
    clear e
    refine oP_ite (fun hb => ?_) (fun hb => ?_)
    · refine oP_ite (fun hb => ?_) (fun hb => ?_)
      · refine oP_ite (fun hb => ?_) (fun hb => ?_)
        · refine oP_dl ?_
          refine oP_let fun g5 e => ?_
          have f_g5 : fZ g0 g5 := by rw [e]; exact fZ_up f_g4 (by decide)
          clear e
          refine oP_ite (fun hb => ?_) (fun hb => ?_)
          · exact f_g5
          · refine oP_ite (fun hb => ?_) (fun hb => ?_)
            · exact f_g5
            · exact f_g5
        · refine oP_dl ?_
          refine oP_let fun g5 e => ?_
          have f_g5 : fZ g0 g5 := by rw [e]; exact fZ_up f_g4 (by decide)
          clear e
          refine oP_ite (fun hb => ?_) (fun hb => ?_)
          · exact f_g5
          · refine oP_ite (fun hb => ?_) (fun hb => ?_)
            · exact f_g5
            · exact f_g5
      · refine oP_dl ?_
        refine oP_let fun g5 e => ?_
        have f_g5 : fZ g0 g5 := by rw [e]; exact fZ_up f_g4 (by decide)
        clear e
        refine oP_ite (fun hb => ?_) (fun hb => ?_)
        · exact f_g5
        · refine oP_ite (fun hb => ?_) (fun hb => ?_)
          · exact f_g5
          · exact f_g5
    · exact f_g4
  · exact f_g3
theorem fn202_z {x : List Int} {g0 : rHp} : fZ g0 (fn202 x g0).2.2 := by
  have f_g0 : fZ g0 g0 := fZ_refl
  show oP (fun h => fZ g0 h) (fn202 x g0)
  unfold fn202
  refine oP_let fun g1 e => ?_
  have f_g1 : fZ g0 g1 := by rw [e]; exact fZ_up f_g0 (by decide)
  clear e
  refine oP_let fun p1 e_p1 => ?_
  refine oP_let fun g2 e => ?_
  have f_g2 : fZ g0 g2 := by rw [e, e_p1]; exact fZ_tr f_g1 fn186_z
  clear e
  refine oP_let fun p2 e_p2 => ?_
  refine oP_let fun g3 e => ?_
  have f_g3 : fZ g0 g3 := by rw [e, e_p2]; exact fZ_tr f_g2 fn190_z
  clear e
  refine oP_let fun p3 e_p3 => ?_
  refine oP_let fun g4 e => ?_
  have f_g4 : fZ g0 g4 := by rw [e, e_p3]; exact fZ_tr f_g3 fn194_z
  clear e
  exact f_g4
theorem fn213_z {x : List Int} {g0 : rHp} : fZ g0 (fn213 x g0).2.2 := by
  have f_g0 : fZ g0 g0 := fZ_refl
  show oP (fun h => fZ g0 h) (fn213 x g0)
  unfold fn213
  refine oP_let fun g1 e => ?_
  have f_g1 : fZ g0 g1 := by rw [e]; exact fZ_up f_g0 (by decide)
  clear e
  refine oP_let fun p1 e_p1 => ?_
  refine oP_let fun g2 e => ?_
  have f_g2 : fZ g0 g2 := by rw [e, e_p1]; exact fZ_tr f_g1 fn198_z
  clear e
  exact f_g2
theorem fn223_z {x : List Int} {g0 : rHp} : fZ g0 (fn223 x g0).2.2 := by
  have f_g0 : fZ g0 g0 := fZ_refl
  refine zGoo_P (I := fun s => fZ g0 s.2.2) fZ_zero (fun s hs => ?_) ?_
  · unfold en223
    refine oS_ite (fun hb => ?_) (fun hb => ?_)
    · refine oS_let fun g1 e => ?_
      have f_g1 : fZ g0 g1 := by rw [e]; exact hs
      clear e
      refine oS_dl ?_
      refine oS_dl ?_
      refine oS_ite (fun hb => ?_) (fun hb => ?_)
      · refine oS_let fun g2 e => ?_
        have f_g2 : fZ g0 g2 := by rw [e]; exact fZ_up f_g1 (by decide)
        clear e
        exact f_g2
      · refine oS_ite (fun hb => ?_) (fun hb => ?_)
        · refine oS_let fun g2 e => ?_
          have f_g2 : fZ g0 g2 := by rw [e]; exact fZ_up f_g1 (by decide)
          clear e
          exact f_g2
        · exact f_g1
    · refine oS_ite (fun hb => ?_) (fun hb => ?_)
      · refine oS_let fun g1 e => ?_
        have f_g1 : fZ g0 g1 := by rw [e]; exact hs
        clear e
        refine oS_dl ?_
        refine oS_dl ?_
        refine oS_dl ?_
        refine oS_dl ?_
        refine oS_dl ?_
        refine oS_ite (fun hb => ?_) (fun hb => ?_)
        · exact f_g1
        · refine oS_dl ?_
          refine oS_let fun p1 e_p1 => ?_
          refine oS_let fun g2 e => ?_
          have f_g2 : fZ g0 g2 := by rw [e, e_p1]; exact fZ_tr f_g1 fn131_z
          clear e
          refine oS_let fun p2 e_p2 => ?_
          refine oS_let fun g3 e => ?_
          have f_g3 : fZ g0 g3 := by rw [e, e_p2]; exact fZ_tr f_g2 fn222_z
          clear e
          refine oS_dl ?_
          refine oS_ite (fun hb => ?_) (fun hb => ?_)
          · refine oS_dl ?_
            refine oS_dl ?_
            refine oS_ite (fun hb => ?_) (fun hb => ?_)
            · exact f_g3
            · refine oS_let fun g4 e => ?_
              have f_g4 : fZ g0 g4 := by rw [e]; exact fZ_up f_g3 (by decide)
              clear e
              exact f_g4
          · exact f_g3
      · refine oS_ite (fun hb => ?_) (fun hb => ?_)
        · refine oS_let fun g1 e => ?_
          have f_g1 : fZ g0 g1 := by rw [e]; exact hs
          clear e
          refine oS_dl ?_
          refine oS_dl ?_
          refine oS_dl ?_
          refine oS_dl ?_
          refine oS_ite (fun hb => ?_) (fun hb => ?_)
          · exact f_g1
          · refine oS_dl ?_
            refine oS_let fun p1 e_p1 => ?_
            refine oS_let fun g2 e => ?_
            have f_g2 : fZ g0 g2 := by rw [e, e_p1]; exact fZ_tr f_g1 fn101_z
            clear e
            refine oS_ite (fun hb => ?_) (fun hb => ?_)
            · refine oS_let fun g3 e => ?_
              have f_g3 : fZ g0 g3 := by rw [e]; exact fZ_up f_g2 (by decide)
              clear e
              exact f_g3
            · refine oS_let fun g3 e => ?_
              have f_g3 : fZ g0 g3 := by rw [e]; exact fZ_up f_g2 (by decide)
              clear e
              exact f_g3
        · exact f_g0
  · unfold dn223
    refine oS_let fun p0 e_p0 => ?_
    refine oS_let fun g1 e => ?_
    have f_g1 : fZ g0 g1 := by rw [e, e_p0]; exact fZ_tr f_g0 fn94_z
    clear e
    exact f_g1
theorem fn211_z {x : List Int} {g0 : rHp} : fZ g0 (fn211 x g0).2.2 := by
  have f_g0 : fZ g0 g0 := fZ_refl
  show oP (fun h => fZ g0 h) (fn211 x g0)
  unfold fn211
  refine oP_dl ?_
  refine oP_dl ?_
  refine oP_dl ?_
  refine oP_let fun p0 e_p0 => ?_
  refine oP_let fun g1 e => ?_
  have f_g1 : fZ g0 g1 := by rw [e, e_p0]; exact fZ_tr f_g0 fn204_z
  clear e
  refine oP_dl ?_
  refine oP_let fun p1 e_p1 => ?_
  refine oP_let fun g2 e => ?_
  have f_g2 : fZ g0 g2 := by rw [e, e_p1]; exact fZ_tr f_g1 fn191_z
  clear e
  refine oP_dl ?_
  refine oP_let fun p2 e_p2 => ?_
  refine oP_let fun g3 e => ?_
  have f_g3 : fZ g0 g3 := by rw [e, e_p2]; exact fZ_tr f_g2 fn210_z
  clear e
  refine oP_dl ?_
  exact f_g3
theorem fn212_z {x : List Int} {g0 : rHp} : fZ g0 (fn212 x g0).2.2 := by
  have f_g0 : fZ g0 g0 := fZ_refl
  show oP (fun h => fZ g0 h) (fn212 x g0)
  unfold fn212
  refine oP_dl ?_
  refine oP_dl ?_
  refine oP_let fun p0 e_p0 => ?_
  refine oP_let fun g1 e => ?_
  have f_g1 : fZ g0 g1 := by rw [e, e_p0]; exact fZ_tr f_g0 fn192_z
  clear e
  refine oP_dl ?_
  refine oP_let fun p1 e_p1 => ?_
  refine oP_let fun g2 e => ?_
  have f_g2 : fZ g0 g2 := by rw [e, e_p1]; exact fZ_tr f_g1 fn210_z
  clear e
  refine oP_dl ?_
  exact f_g2
theorem fn233_z {x : List Int} {g0 : rHp} : fZ g0 (fn233 x g0).2.2 := by
  have f_g0 : fZ g0 g0 := fZ_refl
  show oP (fun h => fZ g0 h) (fn233 x g0)
  unfold fn233
  refine oP_dl ?_
  refine oP_dl ?_
  refine oP_dl ?_
  refine oP_let fun p0 e_p0 => ?_
  refine oP_let fun g1 e => ?_
  have f_g1 : fZ g0 g1 := by rw [e, e_p0]; exact fZ_tr f_g0 fn206_z
  clear e
  refine oP_dl ?_
  refine oP_ite (fun hb => ?_) (fun hb => ?_)
  · refine oP_let fun p1 e_p1 => ?_
    refine oP_let fun g2 e => ?_
    have f_g2 : fZ g0 g2 := by rw [e, e_p1]; exact fZ_tr f_g1 fn207_z
    clear e
    refine oP_ite (fun hb => ?_) (fun hb => ?_)
    · exact f_g2
    · exact f_g2
  · exact f_g1
theorem fn243_z {x : List Int} {g0 : rHp} : fZ g0 (fn243 x g0).2.2 := by
  have f_g0 : fZ g0 g0 := fZ_refl
  show oP (fun h => fZ g0 h) (fn243 x g0)
  unfold fn243
  refine oP_dl ?_
  refine oP_dl ?_
  refine oP_dl ?_
  refine oP_let fun p0 e_p0 => ?_
  refine oP_let fun g1 e => ?_
  have f_g1 : fZ g0 g1 := by rw [e, e_p0]; exact fZ_tr f_g0 fn216_z
  clear e
  refine oP_dl ?_
  refine oP_ite (fun hb => ?_) (fun hb => ?_)
  · refine oP_ite (fun hb => ?_) (fun hb => ?_)
    · refine oP_dl ?_
      refine oP_ite (fun hb => ?_) (fun hb => ?_)
      · refine oP_ite (fun hb => ?_) (fun hb => ?_)
        · refine oP_let fun p1 e_p1 => ?_
          refine oP_let fun g2 e => ?_
          have f_g2 : fZ g0 g2 := by rw [e, e_p1]; exact fZ_tr f_g1 fn220_z
          clear e
          exact f_g2
        · refine oP_let fun p1 e_p1 => ?_
          refine oP_let fun g2 e => ?_
          have f_g2 : fZ g0 g2 := by rw [e, e_p1]; exact fZ_tr f_g1 fn219_z
          clear e
          exact f_g2
      · refine oP_let fun p1 e_p1 => ?_
        refine oP_let fun g2 e => ?_
        have f_g2 : fZ g0 g2 := by rw [e, e_p1]; exact fZ_tr f_g1 fn218_z
        clear e
        exact f_g2
    · refine oP_let fun p1 e_p1 => ?_
      refine oP_let fun g2 e => ?_
      have f_g2 : fZ g0 g2 := by rw [e, e_p1]; exact fZ_tr f_g1 fn217_z
      clear e
      exact f_g2
  · exact f_g1
theorem fn236_z {x : List Int} {g0 : rHp} : fZ g0 (fn236 x g0).2.2 := by
  have f_g0 : fZ g0 g0 := fZ_refl
  show oP (fun h => fZ g0 h) (fn236 x g0)
  unfold fn236
  refine oP_let fun p0 e_p0 => ?_
  refine oP_let fun g1 e => ?_
  have f_g1 : fZ g0 g1 := by rw [e, e_p0]; exact fZ_tr f_g0 fn202_z
  clear e
  refine oP_let fun g2 e => ?_
  have f_g2 : fZ g0 g2 := by rw [e]; exact fZ_up f_g1 (by decide)
  clear e
  exact f_g2
theorem fn226_z {x : List Int} {g0 : rHp} : fZ g0 (fn226 x g0).2.2 := by
  have f_g0 : fZ g0 g0 := fZ_refl
  show oP (fun h => fZ g0 h) (fn226 x g0)
  unfold fn226
  refine oP_dl ?_
  refine oP_dl ?_
  refine oP_dl ?_
  refine oP_dl ?_
  refine oP_ite (fun hb => ?_) (fun hb => ?_)
  · refine oP_let fun p0 e_p0 => ?_
    refine oP_let fun g1 e => ?_
    have f_g1 : fZ g0 g1 := by rw [e, e_p0]; exact fZ_tr f_g0 fn224_z
    clear e
    refine oP_dl ?_
    refine oP_let fun p1 e_p1 => ?_
    refine oP_let fun g2 e => ?_
    have f_g2 : fZ g0 g2 := by rw [e, e_p1]; exact fZ_tr f_g1 fn211_z
    clear e
    refine oP_dl ?_
    exact f_g2
  · refine oP_let fun p0 e_p0 => ?_
    refine oP_let fun g1 e => ?_
    have f_g1 : fZ g0 g1 := by rw [e, e_p0]; exact fZ_tr f_g0 fn208_z
    clear e
    refine oP_dl ?_
    exact f_g1
theorem fn227_z {x : List Int} {g0 : rHp} : fZ g0 (fn227 x g0).2.2 := by
  have f_g0 : fZ g0 g0 := fZ_refl
  show oP (fun h => fZ g0 h) (fn227 x g0)
  unfold fn227
  refine oP_dl ?_
  refine oP_dl ?_
  refine oP_dl ?_
  refine oP_ite (fun hb => ?_) (fun hb => ?_)
  · refine oP_let fun p0 e_p0 => ?_
    refine oP_let fun g1 e => ?_
    have f_g1 : fZ g0 g1 := by rw [e, e_p0]; exact fZ_tr f_g0 fn212_z
    clear e
    refine oP_dl ?_
    exact f_g1
  · refine oP_let fun p0 e_p0 => ?_
    refine oP_let fun g1 e => ?_
    have f_g1 : fZ g0 g1 := by rw [e, e_p0]; exact fZ_tr f_g0 fn209_z
    clear e
    refine oP_dl ?_
    exact f_g1
theorem fn235_z {x : List Int} {g0 : rHp} : fZ g0 (fn235 x g0).2.2 := by
  have f_g0 : fZ g0 g0 := fZ_refl
  refine zGoo_P (I := fun s => fZ g0 s.2.2) fZ_zero (fun s hs => ?_) ?_
  · unfold en235
    refine oS_ite (fun hb => ?_) (fun hb => ?_)
    · refine oS_let fun g1 e => ?_
      have f_g1 : fZ g0 g1 := by rw [e]; exact hs
      clear e
      refine oS_dl ?_
      refine oS_dl ?_
      refine oS_dl ?_
      refine oS_ite (fun hb => ?_) (fun hb => ?_)
      · exact f_g1
      · refine oS_dl ?_
        refine oS_dl ?_
        refine oS_ite (fun hb => ?_) (fun hb => ?_)
        · exact f_g1
        · refine oS_let fun g2 e => ?_
          have f_g2 : fZ g0 g2 := by rw [e]; exact fZ_cp f_g1 (by decide)
          clear e
          refine oS_let fun p2 e_p2 => ?_
          refine oS_let fun g3 e => ?_
          have f_g3 : fZ g0 g3 := by rw [e, e_p2]; exact fZ_tr f_g2 fn233_z
          clear e
          refine oS_ite (fun hb => ?_) (fun hb => ?_)
          · exact f_g3
          · exact f_g3
    · exact f_g0
  · unfold dn235
    refine oS_dl ?_
    exact f_g0
theorem fn237_z {x : List Int} {g0 : rHp} : fZ g0 (fn237 x g0).2.2 := by
  have f_g0 : fZ g0 g0 := fZ_refl
  refine zGoo_P (I := fun s => fZ g0 s.2.2) fZ_zero (fun s hs => ?_) ?_
  · unfold en237
    refine oS_ite (fun hb => ?_) (fun hb => ?_)
    · refine oS_let fun g1 e => ?_
      have f_g1 : fZ g0 g1 := by rw [e]; exact hs
      clear e
      refine oS_dl ?_
      refine oS_dl ?_
      refine oS_dl ?_
      refine oS_dl ?_
      refine oS_dl ?_
      refine oS_dl ?_
      refine oS_ite (fun hb => ?_) (fun hb => ?_)
      · exact f_g1
      · refine oS_dl ?_
        refine oS_ite (fun hb => ?_) (fun hb => ?_)
        · exact f_g1
        · refine oS_let fun g2 e => ?_
          have f_g2 : fZ g0 g2 := by rw [e]; exact fZ_cp f_g1 (by decide)
          clear e
          refine oS_dl ?_
          refine oS_let fun g3 e => ?_
          have f_g3 : fZ g0 g3 := by rw [e]; exact fZ_up f_g2 (by decide)
          clear e
          refine oS_let fun p3 e_p3 => ?_
          refine oS_let fun g4 e => ?_
          have f_g4 : fZ g0 g4 := by rw [e, e_p3]; exact fZ_tr f_g3 fn233_z
          clear e
          refine oS_ite (fun hb => ?_) (fun hb => ?_)
          · exact f_g4
          · exact f_g4
    · exact f_g0
  · unfold dn237
    refine oS_dl ?_
    refine oS_dl ?_
    exact f_g0
theorem fn244_z {x : List Int} {g0 : rHp} : fZ g0 (fn244 x g0).2.2 := by
  have f_g0 : fZ g0 g0 := fZ_refl
  refine zGoo_P (I := fun s => fZ g0 s.2.2) fZ_zero (fun s hs => ?_) ?_
  · unfold en244
    refine oS_ite (fun hb => ?_) (fun hb => ?_)
    · refine oS_let fun g1 e => ?_
      have f_g1 : fZ g0 g1 := by rw [e]; exact hs
      clear e
      refine oS_dl ?_
      refine oS_dl ?_
      refine oS_dl ?_
      refine oS_dl ?_
      refine oS_dl ?_
      refine oS_dl ?_
      refine oS_dl ?_
      refine oS_dl ?_
      refine oS_dl ?_
      refine oS_ite (fun hb => ?_) (fun hb => ?_)
      · refine oS_ite (fun hb => ?_) (fun hb => ?_)
        · refine oS_let fun p1 e_p1 => ?_
          refine oS_let fun g2 e => ?_
          have f_g2 : fZ g0 g2 := by rw [e, e_p1]; exact fZ_tr f_g1 fn233_z
          clear e
          refine oS_ite (fun hb => ?_) (fun hb => ?_)
          · refine oS_ite (fun hb => ?_) (fun hb => ?_)
            · refine oS_let fun g3 e => ?_
              have f_g3 : fZ g0 g3 := by rw [e]; exact fZ_up f_g2 (by decide)
              clear e
              refine oS_let fun g4 e => ?_
              have f_g4 : fZ g0 g4 := by rw [e]; exact fZ_cp f_g3 (by decide)
              clear e
              exact f_g4
            · exact f_g2
          · exact f_g2
        · refine oS_let fun p1 e_p1 => ?_
          refine oS_let fun g2 e => ?_
          have f_g2 : fZ g0 g2 := by rw [e, e_p1]; exact fZ_tr f_g1 fn243_z
          clear e
          refine oS_ite (fun hb => ?_) (fun hb => ?_)
          · exact f_g2
          · exact f_g2
      · refine oS_ite (fun hb => ?_) (fun hb => ?_)
        · refine oS_let fun g2 e => ?_
          have f_g2 : fZ g0 g2 := by rw [e]; exact fZ_up f_g1 (by decide)
          clear e
          exact f_g2
        · refine oS_let fun p1 e_p1 => ?_
          refine oS_let fun g2 e => ?_
          have f_g2 : fZ g0 g2 := by rw [e, e_p1]; exact fZ_tr f_g1 fn224_z
          clear e
          refine oS_dl ?_
          refine oS_let fun g3 e => ?_
          have f_g3 : fZ g0 g3 := by rw [e]; exact fZ_up f_g2 (by decide)
          clear e
          exact f_g3
    · exact f_g0
  · unfold dn244
    refine oS_dl ?_
    refine oS_dl ?_
    refine oS_ite (fun hb => ?_) (fun hb => ?_)
    · exact f_g0
    · refine oS_let fun p0 e_p0 => ?_
      refine oS_let fun g1 e => ?_
      have f_g1 : fZ g0 g1 := by rw [e, e_p0]; exact fZ_tr f_g0 fn242_z
      clear e
      exact f_g1
theorem fn228_z {x : List Int} {g0 : rHp} : fZ g0 (fn228 x g0).2.2 := by
  have f_g0 : fZ g0 g0 := fZ_refl
  refine zGoo_P (I := fun s => fZ g0 s.2.2) fZ_zero (fun s hs => ?_) ?_
  · unfold en228
    refine oS_ite (fun hb => ?_) (fun hb => ?_)
    · refine oS_let fun g1 e => ?_
      have f_g1 : fZ g0 g1 := by rw [e]; exact hs
      clear e
      refine oS_dl ?_
      refine oS_dl ?_
      refine oS_dl ?_
      refine oS_dl ?_
      refine oS_ite (fun hb => ?_) (fun hb => ?_)
      · exact f_g1
      · refine oS_ite (fun hb => ?_) (fun hb => ?_)
        · exact f_g1
        · refine oS_ite (fun hb => ?_) (fun hb => ?_)
          · exact f_g1
          · refine oS_let fun p1 e_p1 => ?_
            refine oS_let fun g2 e => ?_
            have f_g2 : fZ g0 g2 := by rw [e, e_p1]; exact fZ_tr f_g1 fn225_z
            clear e
            refine oS_ite (fun hb => ?_) (fun hb => ?_)
            · exact f_g2
            · refine oS_let fun p2 e_p2 => ?_
              refine oS_let fun g3 e => ?_
              have f_g3 : fZ g0 g3 := by rw [e, e_p2]; exact fZ_tr f_g2 fn227_z
              clear e
              refine oS_dl ?_
              exact f_g3
    · exact f_g0
  · unfold dn228
    refine oS_dl ?_
    refine oS_let fun p0 e_p0 => ?_
    refine oS_let fun g1 e => ?_
    have f_g1 : fZ g0 g1 := by rw [e, e_p0]; exact fZ_tr f_g0 fn226_z
    clear e
    refine oS_dl ?_
    exact f_g1
theorem fn245_z {x : List Int} {g0 : rHp} : fZ g0 (fn245 x g0).2.2 := by
  have f_g0 : fZ g0 g0 := fZ_refl
  show oP (fun h => fZ g0 h) (fn245 x g0)
  unfold fn245
  refine oP_let fun p0 e_p0 => ?_
  refine oP_let fun g1 e => ?_
  have f_g1 : fZ g0 g1 := by rw [e, e_p0]; exact fZ_tr f_g0 fn244_z
  clear e
  refine oP_ite (fun hb => ?_) (fun hb => ?_)
  · exact f_g1
  · exact f_g1
theorem fn246_z {x : List Int} {g0 : rHp} : fZ g0 (fn246 x g0).2.2 := by
  have f_g0 : fZ g0 g0 := fZ_refl
  refine zGoo_P (I := fun s => fZ g0 s.2.2) fZ_zero (fun s hs => ?_) ?_
  · unfold en246
    refine oS_ite (fun hb => ?_) (fun hb => ?_)
    · refine oS_let fun g1 e => ?_
      have f_g1 : fZ g0 g1 := by rw [e]; exact hs
      clear e
      refine oS_dl ?_
      refine oS_dl ?_
      refine oS_dl ?_
      refine oS_dl ?_
      refine oS_dl ?_
      refine oS_dl ?_
      refine oS_dl ?_
      refine oS_dl ?_
      refine oS_ite (fun hb => ?_) (fun hb => ?_)
      · exact f_g1
      · refine oS_ite (fun hb => ?_) (fun hb => ?_)
        · exact f_g1
        · refine oS_ite (fun hb => ?_) (fun hb => ?_)
          · exact f_g1
          · refine oS_ite (fun hb => ?_) (fun hb => ?_)
            · refine oS_let fun p1 e_p1 => ?_
              refine oS_let fun g2 e => ?_
              have f_g2 : fZ g0 g2 := by rw [e, e_p1]; exact fZ_tr f_g1 fn227_z
              clear e
              refine oS_dl ?_
              exact f_g2
            · refine oS_let fun p1 e_p1 => ?_
              refine oS_let fun g2 e => ?_
              have f_g2 : fZ g0 g2 := by rw [e, e_p1]; exact fZ_tr f_g1 fn225_z
              clear e
              refine oS_ite (fun hb => ?_) (fun hb => ?_)
              · refine oS_let fun p2 e_p2 => ?_
                refine oS_let fun g3 e => ?_
                have f_g3 : fZ g0 g3 := by rw [e, e_p2]; exact fZ_tr f_g2 fn232_z
                clear e
                refine oS_ite (fun hb => ?_) (fun hb => ?_)
                · refine oS_ite (fun hb => ?_) (fun hb => ?_)
                  · refine oS_let fun g4 e => ?_
                    have f_g4 : fZ g0 g4 := by rw [e]; exact fZ_up f_g3 (by decide)
                    clear e
                    refine oS_let fun p4 e_p4 => ?_
                    refine oS_let fun g5 e => ?_
                    have f_g5 : fZ g0 g5 := by rw [e, e_p4]; exact fZ_tr f_g4 fn245_z
                    clear e
                    refine oS_ite (fun hb => ?_) (fun hb => ?_)
                    · refine oS_let fun g6 e => ?_
                      have f_g6 : fZ g0 g6 := by rw [e]; exact fZ_up f_g5 (by decide)
                      clear e
                      refine oS_let fun p6 e_p6 => ?_
                      refine oS_let fun g7 e => ?_
                      have f_g7 : fZ g0 g7 := by rw [e, e_p6]; exact fZ_tr f_g6 fn227_z
                      clear e
                      refine oS_dl ?_
                      exact f_g7
                    · exact f_g5
                  · refine oS_dl ?_
                    refine oS_let fun g4 e => ?_
                    have f_g4 : fZ g0 g4 := by rw [e]; exact fZ_up f_g3 (by decide)
                    clear e
                    refine oS_let fun p4 e_p4 => ?_
                    refine oS_let fun g5 e => ?_
                    have f_g5 : fZ g0 g5 := by rw [e, e_p4]; exact fZ_tr f_g4 fn245_z
                    clear e
                    refine oS_ite (fun hb => ?_) (fun hb => ?_)
                    · refine oS_dl ?_
                      refine oS_let fun g6 e => ?_
                      have f_g6 : fZ g0 g6 := by rw [e]; exact fZ_up f_g5 (by decide)
                      clear e
                      refine oS_let fun p6 e_p6 => ?_
                      refine oS_let fun g7 e => ?_
                      have f_g7 : fZ g0 g7 := by rw [e, e_p6]; exact fZ_tr f_g6 fn227_z
                      clear e
                      refine oS_dl ?_
                      exact f_g7
                    · exact f_g5
                · exact f_g3
              · refine oS_let fun p2 e_p2 => ?_
                refine oS_let fun g3 e => ?_
                have f_g3 : fZ g0 g3 := by rw [e, e_p2]; exact fZ_tr f_g2 fn227_z
                clear e
                refine oS_dl ?_
                exact f_g3
    · exact f_g0
  · unfold dn246
    refine oS_dl ?_
    refine oS_dl ?_
    refine oS_dl ?_
    refine oS_dl ?_
    refine oS_dl ?_
    refine oS_dl ?_
    refine oS_ite (fun hb => ?_) (fun hb => ?_)
    · refine oS_let fun p0 e_p0 => ?_
      refine oS_let fun g1 e => ?_
      have f_g1 : fZ g0 g1 := by rw [e, e_p0]; exact fZ_tr f_g0 fn226_z
      clear e
      refine oS_dl ?_
      exact f_g1
    · refine oS_ite (fun hb => ?_) (fun hb => ?_)
      · refine oS_let fun p0 e_p0 => ?_
        refine oS_let fun g1 e => ?_
        have f_g1 : fZ g0 g1 := by rw [e, e_p0]; exact fZ_tr f_g0 fn226_z
        clear e
        refine oS_dl ?_
        exact f_g1
      · refine oS_ite (fun hb => ?_) (fun hb => ?_)
        · refine oS_let fun p0 e_p0 => ?_
          refine oS_let fun g1 e => ?_
          have f_g1 : fZ g0 g1 := by rw [e, e_p0]; exact fZ_tr f_g0 fn226_z
          clear e
          refine oS_dl ?_
          exact f_g1
        · refine oS_let fun p0 e_p0 => ?_
          refine oS_let fun g1 e => ?_
          have f_g1 : fZ g0 g1 := by rw [e, e_p0]; exact fZ_tr f_g0 fn226_z
          clear e
          refine oS_dl ?_
          exact f_g1
theorem fn247_z {x : List Int} {g0 : rHp} : fZ g0 (fn247 x g0).2.2 := by
  have f_g0 : fZ g0 g0 := fZ_refl
  show oP (fun h => fZ g0 h) (fn247 x g0)
  unfold fn247
  refine oP_dl ?_
  refine oP_dl ?_
  refine oP_dl ?_
  refine oP_ite (fun hb => ?_) (fun hb => ?_)
  · refine oP_let fun p0 e_p0 => ?_
    refine oP_let fun g1 e => ?_
    have f_g1 : fZ g0 g1 := by rw [e, e_p0]; exact fZ_tr f_g0 fn244_z
    clear e
    refine oP_ite (fun hb => ?_) (fun hb => ?_)
    · exact f_g1
    · exact f_g1
  · refine oP_let fun p0 e_p0 => ?_
    refine oP_let fun g1 e => ?_
    have f_g1 : fZ g0 g1 := by rw [e, e_p0]; exact fZ_tr f_g0 fn132_z
    clear e
    refine oP_ite (fun hb => ?_) (fun hb => ?_)
    · refine oP_ite (fun hb => ?_) (fun hb => ?_)
      · refine oP_ite (fun hb => ?_) (fun hb => ?_)
        · refine oP_let fun p1 e_p1 => ?_
          refine oP_let fun g2 e => ?_
          have f_g2 : fZ g0 g2 := by rw [e, e_p1]; exact fZ_tr f_g1 fn230_z
          clear e
          refine oP_ite (fun hb => ?_) (fun hb => ?_)
          · refine oP_let fun p2 e_p2 => ?_
            refine oP_let fun g3 e => ?_
            have f_g3 : fZ g0 g3 := by rw [e, e_p2]; exact fZ_tr f_g2 fn245_z
            clear e
            refine oP_ite (fun hb => ?_) (fun hb => ?_)
            · exact f_g3
            · exact f_g3
          · exact f_g2
        · refine oP_let fun p1 e_p1 => ?_
          refine oP_let fun g2 e => ?_
          have f_g2 : fZ g0 g2 := by rw [e, e_p1]; exact fZ_tr f_g1 fn228_z
          clear e
          refine oP_ite (fun hb => ?_) (fun hb => ?_)
          · exact f_g2
          · refine oP_let fun p2 e_p2 => ?_
            refine oP_let fun g3 e => ?_
            have f_g3 : fZ g0 g3 := by rw [e, e_p2]; exact fZ_tr f_g2 fn245_z
            clear e
            refine oP_ite (fun hb => ?_) (fun hb => ?_)
            · exact f_g3
            · exact f_g3
      · refine oP_ite (fun hb => ?_) (fun hb => ?_)
        · refine oP_let fun p1 e_p1 => ?_
          refine oP_let fun g2 e => ?_
          have f_g2 : fZ g0 g2 := by rw [e, e_p1]; exact fZ_tr f_g1 fn229_z
          clear e
          refine oP_ite (fun hb => ?_) (fun hb => ?_)
          · refine oP_let fun p2 e_p2 => ?_
            refine oP_let fun g3 e => ?_
            have f_g3 : fZ g0 g3 := by rw [e, e_p2]; exact fZ_tr f_g2 fn245_z
            clear e
            refine oP_ite (fun hb => ?_) (fun hb => ?_)
            · exact f_g3
            · exact f_g3
          · exact f_g2
        · refine oP_let fun p1 e_p1 => ?_
          refine oP_let fun g2 e => ?_
          have f_g2 : fZ g0 g2 := by rw [e, e_p1]; exact fZ_tr f_g1 fn231_z
          clear e
          refine oP_ite (fun hb => ?_) (fun hb => ?_)
          · refine oP_let fun p2 e_p2 => ?_
            refine oP_let fun g3 e => ?_
            have f_g3 : fZ g0 g3 := by rw [e, e_p2]; exact fZ_tr f_g2 fn245_z
            clear e
            refine oP_ite (fun hb => ?_) (fun hb => ?_)
            · exact f_g3
            · exact f_g3
          · exact f_g2
    · refine oP_let fun p1 e_p1 => ?_
      refine oP_let fun g2 e => ?_
      have f_g2 : fZ g0 g2 := by rw [e, e_p1]; exact fZ_tr f_g1 fn246_z
      clear e
      refine oP_ite (fun hb => ?_) (fun hb => ?_)
      · exact f_g2
      · refine oP_ite (fun hb => ?_) (fun hb => ?_)
        · exact f_g2
        · exact f_g2
theorem fn248_z {x : List Int} {g0 : rHp} : fZ g0 (fn248 x g0).2.2 := by
  have f_g0 : fZ g0 g0 := fZ_refl
  refine zGoo_P (I := fun s => fZ g0 s.2.2) fZ_zero (fun s hs => ?_) ?_
  · unfold en248
    refine oS_ite (fun hb => ?_) (fun hb => ?_)
    · refine oS_let fun g1 e => ?_
      have f_g1 : fZ g0 g1 := by rw [e]; exact hs
      clear e
      refine oS_dl ?_
      refine oS_dl ?_
      refine oS_dl ?_
      refine oS_dl ?_
      refine oS_dl ?_
      refine oS_dl ?_
      refine oS_dl ?_
      refine oS_dl ?_
      refine oS_ite (fun hb => ?_) (fun hb => ?_)
      · exact f_g1
      · refine oS_ite (fun hb => ?_) (fun hb => ?_)
        · exact f_g1
        · refine oS_ite (fun hb => ?_) (fun hb => ?_)
          · exact f_g1
          · refine oS_ite (fun hb => ?_) (fun hb => ?_)
            · refine oS_let fun p1 e_p1 => ?_
              refine oS_let fun g2 e => ?_
              have f_g2 : fZ g0 g2 := by rw [e, e_p1]; exact fZ_tr f_g1 fn227_z
              clear e
              refine oS_dl ?_
              exact f_g2
            · refine oS_let fun p1 e_p1 => ?_
              refine oS_let fun g2 e => ?_
              have f_g2 : fZ g0 g2 := by rw [e, e_p1]; exact fZ_tr f_g1 fn225_z
              clear e
              refine oS_ite (fun hb => ?_) (fun hb => ?_)
              · refine oS_let fun p2 e_p2 => ?_
                refine oS_let fun g3 e => ?_
                have f_g3 : fZ g0 g3 := by rw [e, e_p2]; exact fZ_tr f_g2 fn232_z
                clear e
                refine oS_ite (fun hb => ?_) (fun hb => ?_)
                · refine oS_ite (fun hb => ?_) (fun hb => ?_)
                  · refine oS_let fun g4 e => ?_
                    have f_g4 : fZ g0 g4 := by rw [e]; exact fZ_up f_g3 (by decide)
                    clear e
                    refine oS_let fun p4 e_p4 => ?_
                    refine oS_let fun g5 e => ?_
                    have f_g5 : fZ g0 g5 := by rw [e, e_p4]; exact fZ_tr f_g4 fn247_z
                    clear e
                    refine oS_ite (fun hb => ?_) (fun hb => ?_)
                    · refine oS_dl ?_
                      refine oS_let fun g6 e => ?_
                      have f_g6 : fZ g0 g6 := by rw [e]; exact fZ_up f_g5 (by decide)
                      clear e
                      refine oS_let fun p6 e_p6 => ?_
                      refine oS_let fun g7 e => ?_
                      have f_g7 : fZ g0 g7 := by rw [e, e_p6]; exact fZ_tr f_g6 fn227_z
                      clear e
                      refine oS_dl ?_
                      exact f_g7
                    · refine oS_ite (fun hb => ?_) (fun hb => ?_)
                      · exact f_g5
                      · exact f_g5
                  · refine oS_dl ?_
                    refine oS_let fun g4 e => ?_
                    have f_g4 : fZ g0 g4 := by rw [e]; exact fZ_up f_g3 (by decide)
                    clear e
                    refine oS_let fun p4 e_p4 => ?_
                    refine oS_let fun g5 e => ?_
                    have f_g5 : fZ g0 g5 := by rw [e, e_p4]; exact fZ_tr f_g4 fn247_z
                    clear e
                    refine oS_ite (fun hb => ?_) (fun hb => ?_)
                    · refine oS_dl ?_
                      refine oS_dl ?_
                      refine oS_let fun g6 e => ?_
                      have f_g6 : fZ g0 g6 := by rw [e]; exact fZ_up f_g5 (by decide)
                      clear e
                      refine oS_let fun p6 e_p6 => ?_
                      refine oS_let fun g7 e => ?_
                      have f_g7 : fZ g0 g7 := by rw [e, e_p6]; exact fZ_tr f_g6 fn227_z
                      clear e
                      refine oS_dl ?_
                      exact f_g7
                    · refine oS_ite (fun hb => ?_) (fun hb => ?_)
                      · exact f_g5
                      · exact f_g5
                · exact f_g3
              · refine oS_let fun p2 e_p2 => ?_
                refine oS_let fun g3 e => ?_
                have f_g3 : fZ g0 g3 := by rw [e, e_p2]; exact fZ_tr f_g2 fn227_z
                clear e
                refine oS_dl ?_
                exact f_g3
    · exact f_g0
  · unfold dn248
    refine oS_dl ?_
    refine oS_dl ?_
    refine oS_dl ?_
    refine oS_dl ?_
    refine oS_dl ?_
    refine oS_dl ?_
    refine oS_ite (fun hb => ?_) (fun hb => ?_)
    · refine oS_let fun p0 e_p0 => ?_
      refine oS_let fun g1 e => ?_
      have f_g1 : fZ g0 g1 := by rw [e, e_p0]; exact fZ_tr f_g0 fn226_z
      clear e
      refine oS_dl ?_
      exact f_g1
    · refine oS_ite (fun hb => ?_) (fun hb => ?_)
      · refine oS_let fun p0 e_p0 => ?_
        refine oS_let fun g1 e => ?_
        have f_g1 : fZ g0 g1 := by rw [e, e_p0]; exact fZ_tr f_g0 fn226_z
        clear e
        refine oS_dl ?_
        exact f_g1
      · refine oS_ite (fun hb => ?_) (fun hb => ?_)
        · refine oS_let fun p0 e_p0 => ?_
          refine oS_let fun g1 e => ?_
          have f_g1 : fZ g0 g1 := by rw [e, e_p0]; exact fZ_tr f_g0 fn226_z
          clear e
          refine oS_dl ?_
          exact f_g1
        · refine oS_let fun p0 e_p0 => ?_
          refine oS_let fun g1 e => ?_
          have f_g1 : fZ g0 g1 := by rw [e, e_p0]; exact fZ_tr f_g0 fn226_z
          clear e
          refine oS_dl ?_
          exact f_g1
theorem fn249_z {x : List Int} {g0 : rHp} : fZ g0 (fn249 x g0).2.2 := by
  have f_g0 : fZ g0 g0 := fZ_refl
  show oP (fun h => fZ g0 h) (fn249 x g0)
  unfold fn249
  refine oP_dl ?_
  refine oP_dl ?_
  refine oP_dl ?_
  refine oP_ite (fun hb => ?_) (fun hb => ?_)
  · refine oP_let fun p0 e_p0 => ?_
    refine oP_let fun g1 e => ?_
    have f_g1 : fZ g0 g1 := by rw [e, e_p0]; exact fZ_tr f_g0 fn244_z
    clear e
    refine oP_ite (fun hb => ?_) (fun hb => ?_)
    · exact f_g1
    · exact f_g1
  · refine oP_let fun p0 e_p0 => ?_
    refine oP_let fun g1 e => ?_
    have f_g1 : fZ g0 g1 := by rw [e, e_p0]; exact fZ_tr f_g0 fn132_z
    clear e
    refine oP_ite (fun hb => ?_) (fun hb => ?_)
    · refine oP_ite (fun hb => ?_) (fun hb => ?_)
      · refine oP_ite (fun hb => ?_) (fun hb => ?_)
        · refine oP_let fun p1 e_p1 => ?_
          refine oP_let fun g2 e => ?_
          have f_g2 : fZ g0 g2 := by rw [e, e_p1]; exact fZ_tr f_g1 fn230_z
          clear e
          refine oP_ite (fun hb => ?_) (fun hb => ?_)
          · refine oP_let fun p2 e_p2 => ?_
            refine oP_let fun g3 e => ?_
            have f_g3 : fZ g0 g3 := by rw [e, e_p2]; exact fZ_tr f_g2 fn247_z
            clear e
            refine oP_ite (fun hb => ?_) (fun hb => ?_)
            · exact f_g3
            · refine oP_ite (fun hb => ?_) (fun hb => ?_)
              · exact f_g3
              · exact f_g3
          · exact f_g2
        · refine oP_let fun p1 e_p1 => ?_
          refine oP_let fun g2 e => ?_
          have f_g2 : fZ g0 g2 := by rw [e, e_p1]; exact fZ_tr f_g1 fn228_z
          clear e
          refine oP_ite (fun hb => ?_) (fun hb => ?_)
          · exact f_g2
          · refine oP_let fun p2 e_p2 => ?_
            refine oP_let fun g3 e => ?_
            have f_g3 : fZ g0 g3 := by rw [e, e_p2]; exact fZ_tr f_g2 fn247_z
            clear e
            refine oP_ite (fun hb => ?_) (fun hb => ?_)
            · exact f_g3
            · refine oP_ite (fun hb => ?_) (fun hb => ?_)
              · exact f_g3
              · exact f_g3
      · refine oP_ite (fun hb => ?_) (fun hb => ?_)
        · refine oP_let fun p1 e_p1 => ?_
          refine oP_let fun g2 e => ?_
          have f_g2 : fZ g0 g2 := by rw [e, e_p1]; exact fZ_tr f_g1 fn229_z
          clear e
          refine oP_ite (fun hb => ?_) (fun hb => ?_)
          · refine oP_let fun p2 e_p2 => ?_
            refine oP_let fun g3 e => ?_
            have f_g3 : fZ g0 g3 := by rw [e, e_p2]; exact fZ_tr f_g2 fn247_z
            clear e
            refine oP_ite (fun hb => ?_) (fun hb => ?_)
            · exact f_g3
            · refine oP_ite (fun hb => ?_) (fun hb => ?_)
              · exact f_g3
              · exact f_g3
          · exact f_g2
        · refine oP_let fun p1 e_p1 => ?_
          refine oP_let fun g2 e => ?_
          have f_g2 : fZ g0 g2 := by rw [e, e_p1]; exact fZ_tr f_g1 fn231_z
          clear e
          refine oP_ite (fun hb => ?_) (fun hb => ?_)
          · refine oP_let fun p2 e_p2 => ?_
            refine oP_let fun g3 e => ?_
            have f_g3 : fZ g0 g3 := by rw [e, e_p2]; exact fZ_tr f_g2 fn247_z
            clear e
            refine oP_ite (fun hb => ?_) (fun hb => ?_)
            · exact f_g3
            · refine oP_ite (fun hb => ?_) (fun hb => ?_)
              · exact f_g3
              · exact f_g3
          · exact f_g2
    · refine oP_let fun p1 e_p1 => ?_
      refine oP_let fun g2 e => ?_
      have f_g2 : fZ g0 g2 := by rw [e, e_p1]; exact fZ_tr f_g1 fn248_z
      clear e
      refine oP_ite (fun hb => ?_) (fun hb => ?_)
      · exact f_g2
      · refine oP_ite (fun hb => ?_) (fun hb => ?_)
        · exact f_g2
        · exact f_g2
theorem fn250_z {x : List Int} {g0 : rHp} : fZ g0 (fn250 x g0).2.2 := by
  have f_g0 : fZ g0 g0 := fZ_refl
  refine zGoo_P (I := fun s => fZ g0 s.2.2) fZ_zero (fun s hs => ?_) ?_
  · unfold en250
    refine oS_ite (fun hb => ?_) (fun hb => ?_)
    · refine oS_let fun g1 e => ?_
      have f_g1 : fZ g0 g1 := by rw [e]; exact hs
      clear e
      refine oS_dl ?_
      refine oS_dl ?_
      refine oS_dl ?_
      refine oS_dl ?_
      refine oS_dl ?_
      refine oS_dl ?_
      refine oS_dl ?_
      refine oS_dl ?_
      refine oS_ite (fun hb => ?_) (fun hb => ?_)
      · exact f_g1
      · refine oS_ite (fun hb => ?_) (fun hb => ?_)
        · exact f_g1
        · refine oS_ite (fun hb => ?_) (fun hb => ?_)
          · exact f_g1
          · refine oS_ite (fun hb => ?_) (fun hb => ?_)
            · refine oS_let fun p1 e_p1 => ?_
              refine oS_let fun g2 e => ?_
              have f_g2 : fZ g0 g2 := by rw [e, e_p1]; exact fZ_tr f_g1 fn227_z
              clear e
              refine oS_dl ?_
              exact f_g2
            · refine oS_let fun p1 e_p1 => ?_
              refine oS_let fun g2 e => ?_
              have f_g2 : fZ g0 g2 := by rw [e, e_p1]; exact fZ_tr f_g1 fn225_z
              clear e
              refine oS_ite (fun hb => ?_) (fun hb => ?_)
              · refine oS_let fun p2 e_p2 => ?_
                refine oS_let fun g3 e => ?_
                have f_g3 : fZ g0 g3 := by rw [e, e_p2]; exact fZ_tr f_g2 fn232_z
                clear e
                refine oS_ite (fun hb => ?_) (fun hb => ?_)
                · refine oS_ite (fun hb => ?_) (fun hb => ?_)
                  · refine oS_let fun g4 e => ?_
                    have f_g4 : fZ g0 g4 := by rw [e]; exact fZ_up f_g3 (by decide)
                    clear e
                    refine oS_let fun p4 e_p4 => ?_
                    refine oS_let fun g5 e => ?_
                    have f_g5 : fZ g0 g5 := by rw [e, e_p4]; exact fZ_tr f_g4 fn249_z
                    clear e
                    refine oS_ite (fun hb => ?_) (fun hb => ?_)
                    · refine oS_dl ?_
                      refine oS_let fun g6 e => ?_
                      have f_g6 : fZ g0 g6 := by rw [e]; exact fZ_up f_g5 (by decide)
                      clear e
                      refine oS_let fun p6 e_p6 => ?_
                      refine oS_let fun g7 e => ?_
                      have f_g7 : fZ g0 g7 := by rw [e, e_p6]; exact fZ_tr f_g6 fn227_z
                      clear e
                      refine oS_dl ?_
                      exact f_g7
                    · refine oS_ite (fun hb => ?_) (fun hb => ?_)
                      · exact f_g5
                      · exact f_g5
                  · refine oS_dl ?_
                    refine oS_let fun g4 e => ?_
                    have f_g4 : fZ g0 g4 := by rw [e]; exact fZ_up f_g3 (by decide)
                    clear e
                    refine oS_let fun p4 e_p4 => ?_
                    refine oS_let fun g5 e => ?_
                    have f_g5 : fZ g0 g5 := by rw [e, e_p4]; exact fZ_tr f_g4 fn249_z
                    clear e
                    refine oS_ite (fun hb => ?_) (fun hb => ?_)
                    · refine oS_dl ?_
                      refine oS_dl ?_
                      refine oS_let fun g6 e => ?_
                      have f_g6 : fZ g0 g6 := by rw [e]; exact fZ_up f_g5 (by decide)
                      clear e
                      refine oS_let fun p6 e_p6 => ?_
                      refine oS_let fun g7 e => ?_
                      have f_g7 : fZ g0 g7 := by rw [e, e_p6]; exact fZ_tr f_g6 fn227_z
                      clear e
                      refine oS_dl ?_
                      exact f_g7
                    · refine oS_ite (fun hb => ?_) (fun hb => ?_)
                      · exact f_g5
                      · exact f_g5
                · exact f_g3
              · refine oS_let fun p2 e_p2 => ?_
                refine oS_let fun g3 e => ?_
                have f_g3 : fZ g0 g3 := by rw [e, e_p2]; exact fZ_tr f_g2 fn227_z
                clear e
                refine oS_dl ?_
                exact f_g3
    · exact f_g0
  · unfold dn250
    refine oS_dl ?_
    refine oS_dl ?_
    refine oS_dl ?_
    refine oS_dl ?_
    refine oS_dl ?_
    refine oS_dl ?_
    refine oS_ite (fun hb => ?_) (fun hb => ?_)
    · refine oS_let fun p0 e_p0 => ?_
      refine oS_let fun g1 e => ?_
      have f_g1 : fZ g0 g1 := by rw [e, e_p0]; exact fZ_tr f_g0 fn226_z
      clear e
      refine oS_dl ?_
      exact f_g1
    · refine oS_ite (fun hb => ?_) (fun hb => ?_)
      · refine oS_let fun p0 e_p0 => ?_
        refine oS_let fun g1 e => ?_
        have f_g1 : fZ g0 g1 := by rw [e, e_p0]; exact fZ_tr f_g0 fn226_z
        clear e
        refine oS_dl ?_
        exact f_g1
      · refine oS_ite (fun hb => ?_) (fun hb => ?_)
        · refine oS_let fun p0 e_p0 => ?_
          refine oS_let fun g1 e => ?_
          have f_g1 : fZ g0 g1 := by rw [e, e_p0]; exact fZ_tr f_g0 fn226_z
          clear e
          refine oS_dl ?_
          exact f_g1
        · refine oS_let fun p0 e_p0 => ?_
          refine oS_let fun g1 e => ?_
          have f_g1 : fZ g0 g1 := by rw [e, e_p0]; exact fZ_tr f_g0 fn226_z
          clear e
          refine oS_dl ?_
          exact f_g1
theorem fn251_z {x : List Int} {g0 : rHp} : fZ g0 (fn251 x g0).2.2 := by
  have f_g0 : fZ g0 g0 := fZ_refl
  show oP (fun h => fZ g0 h) (fn251 x g0)
  unfold fn251
  refine oP_dl ?_
  refine oP_dl ?_
  refine oP_dl ?_
  refine oP_ite (fun hb => ?_) (fun hb => ?_)
  · refine oP_let fun p0 e_p0 => ?_
    refine oP_let fun g1 e => ?_
    have f_g1 : fZ g0 g1 := by rw [e, e_p0]; exact fZ_tr f_g0 fn244_z
    clear e
    refine oP_ite (fun hb => ?_) (fun hb => ?_)
    · exact f_g1
    · exact f_g1
  · refine oP_let fun p0 e_p0 => ?_
    refine oP_let fun g1 e => ?_
    have f_g1 : fZ g0 g1 := by rw [e, e_p0]; exact fZ_tr f_g0 fn132_z
    clear e
    refine oP_ite (fun hb => ?_) (fun hb => ?_)
    · refine oP_ite (fun hb => ?_) (fun hb => ?_)
      · refine oP_ite (fun hb => ?_) (fun hb => ?_)
        · refine oP_let fun p1 e_p1 => ?_
          refine oP_let fun g2 e => ?_
          have f_g2 : fZ g0 g2 := by rw [e, e_p1]; exact fZ_tr f_g1 fn230_z
          clear e
          refine oP_ite (fun hb => ?_) (fun hb => ?_)
          · refine oP_let fun p2 e_p2 => ?_
            refine oP_let fun g3 e => ?_
            have f_g3 : fZ g0 g3 := by rw [e, e_p2]; exact fZ_tr f_g2 fn249_z
            clear e
            refine oP_ite (fun hb => ?_) (fun hb => ?_)
            · exact f_g3
            · refine oP_ite (fun hb => ?_) (fun hb => ?_)
              · exact f_g3
              · exact f_g3
          · exact f_g2
        · refine oP_let fun p1 e_p1 => ?_
          refine oP_let fun g2 e => ?_
          have f_g2 : fZ g0 g2 := by rw [e, e_p1]; exact fZ_tr f_g1 fn228_z
          clear e
          refine oP_ite (fun hb => ?_) (fun hb => ?_)
          · exact f_g2
          · refine oP_let fun p2 e_p2 => ?_
            refine oP_let fun g3 e => ?_
            have f_g3 : fZ g0 g3 := by rw [e, e_p2]; exact fZ_tr f_g2 fn249_z
            clear e
            refine oP_ite (fun hb => ?_) (fun hb => ?_)
            · exact f_g3
            · refine oP_ite (fun hb => ?_) (fun hb => ?_)
              · exact f_g3
              · exact f_g3
      · refine oP_ite (fun hb => ?_) (fun hb => ?_)
        · refine oP_let fun p1 e_p1 => ?_
          refine oP_let fun g2 e => ?_
          have f_g2 : fZ g0 g2 := by rw [e, e_p1]; exact fZ_tr f_g1 fn229_z
          clear e
          refine oP_ite (fun hb => ?_) (fun hb => ?_)
          · refine oP_let fun p2 e_p2 => ?_
            refine oP_let fun g3 e => ?_
            have f_g3 : fZ g0 g3 := by rw [e, e_p2]; exact fZ_tr f_g2 fn249_z
            clear e
            refine oP_ite (fun hb => ?_) (fun hb => ?_)
            · exact f_g3
            · refine oP_ite (fun hb => ?_) (fun hb => ?_)
              · exact f_g3
              · exact f_g3
          · exact f_g2
        · refine oP_let fun p1 e_p1 => ?_
          refine oP_let fun g2 e => ?_
          have f_g2 : fZ g0 g2 := by rw [e, e_p1]; exact fZ_tr f_g1 fn231_z
          clear e
          refine oP_ite (fun hb => ?_) (fun hb => ?_)
          · refine oP_let fun p2 e_p2 => ?_
            refine oP_let fun g3 e => ?_
            have f_g3 : fZ g0 g3 := by rw [e, e_p2]; exact fZ_tr f_g2 fn249_z
            clear e
            refine oP_ite (fun hb => ?_) (fun hb => ?_)
            · exact f_g3
            · refine oP_ite (fun hb => ?_) (fun hb => ?_)
              · exact f_g3
              · exact f_g3
          · exact f_g2
    · refine oP_let fun p1 e_p1 => ?_
      refine oP_let fun g2 e => ?_
      have f_g2 : fZ g0 g2 := by rw [e, e_p1]; exact fZ_tr f_g1 fn250_z
      clear e
      refine oP_ite (fun hb => ?_) (fun hb => ?_)
      · exact f_g2
      · refine oP_ite (fun hb => ?_) (fun hb => ?_)
        · exact f_g2
        · exact f_g2
theorem fn252_z {x : List Int} {g0 : rHp} : fZ g0 (fn252 x g0).2.2 := by
  have f_g0 : fZ g0 g0 := fZ_refl
  refine zGoo_P (I := fun s => fZ g0 s.2.2) fZ_zero (fun s hs => ?_) ?_
  · unfold en252
    refine oS_ite (fun hb => ?_) (fun hb => ?_)
    · refine oS_let fun g1 e => ?_
      have f_g1 : fZ g0 g1 := by rw [e]; exact hs
      clear e
      refine oS_dl ?_
      refine oS_dl ?_
      refine oS_dl ?_
      refine oS_dl ?_
      refine oS_dl ?_
      refine oS_dl ?_
      refine oS_dl ?_
      refine oS_dl ?_
      refine oS_ite (fun hb => ?_) (fun hb => ?_)
      · exact f_g1
      · refine oS_ite (fun hb => ?_) (fun hb => ?_)
        · exact f_g1
        · refine oS_ite (fun hb => ?_) (fun hb => ?_)
          · exact f_g1
          · refine oS_ite (fun hb => ?_) (fun hb => ?_)
            · refine oS_let fun p1 e_p1 => ?_
              refine oS_let fun g2 e => ?_
              have f_g2 : fZ g0 g2 := by rw [e, e_p1]; exact fZ_tr f_g1 fn227_z
              clear e
              refine oS_dl ?_
              exact f_g2
            · refine oS_let fun p1 e_p1 => ?_
              refine oS_let fun g2 e => ?_
              have f_g2 : fZ g0 g2 := by rw [e, e_p1]; exact fZ_tr f_g1 fn225_z
              clear e
              refine oS_ite (fun hb => ?_) (fun hb => ?_)
              · refine oS_let fun p2 e_p2 => ?_
                refine oS_let fun g3 e => ?_
                have f_g3 : fZ g0 g3 := by rw [e, e_p2]; exact fZ_tr f_g2 fn232_z
                clear e
                refine oS_ite (fun hb => ?_) (fun hb => ?_)
                · refine oS_ite (fun hb => ?_) (fun hb => ?_)
                  · refine oS_let fun g4 e => ?_
                    have f_g4 : fZ g0 g4 := by rw [e]; exact fZ_up f_g3 (by decide)
                    clear e
                    refine oS_let fun p4 e_p4 => ?_
                    refine oS_let fun g5 e => ?_
                    have f_g5 : fZ g0 g5 := by rw [e, e_p4]; exact fZ_tr f_g4 fn251_z
                    clear e
                    refine oS_ite (fun hb => ?_) (fun hb => ?_)
                    · refine oS_dl ?_
                      refine oS_let fun g6 e => ?_
                      have f_g6 : fZ g0 g6 := by rw [e]; exact fZ_up f_g5 (by decide)
                      clear e
                      refine oS_let fun p6 e_p6 => ?_
                      refine oS_let fun g7 e => ?_
                      have f_g7 : fZ g0 g7 := by rw [e, e_p6]; exact fZ_tr f_g6 fn227_z
                      clear e
                      refine oS_dl ?_
                      exact f_g7
                    · refine oS_ite (fun hb => ?_) (fun hb => ?_)
                      · exact f_g5
                      · exact f_g5
                  · refine oS_dl ?_
                    refine oS_let fun g4 e => ?_
                    have f_g4 : fZ g0 g4 := by rw [e]; exact fZ_up f_g3 (by decide)
                    clear e
                    refine oS_let fun p4 e_p4 => ?_
                    refine oS_let fun g5 e => ?_
                    have f_g5 : fZ g0 g5 := by rw [e, e_p4]; exact fZ_tr f_g4 fn251_z
                    clear e
                    refine oS_ite (fun hb => ?_) (fun hb => ?_)
                    · refine oS_dl ?_
                      refine oS_dl ?_
                      refine oS_let fun g6 e => ?_
                      have f_g6 : fZ g0 g6 := by rw [e]; exact fZ_up f_g5 (by decide)
                      clear e
                      refine oS_let fun p6 e_p6 => ?_
                      refine oS_let fun g7 e => ?_
                      have f_g7 : fZ g0 g7 := by rw [e, e_p6]; exact fZ_tr f_g6 fn227_z
                      clear e
                      refine oS_dl ?_
                      exact f_g7
                    · refine oS_ite (fun hb => ?_) (fun hb => ?_)
                      · exact f_g5
                      · exact f_g5
                · exact f_g3
              · refine oS_let fun p2 e_p2 => ?_
                refine oS_let fun g3 e => ?_
                have f_g3 : fZ g0 g3 := by rw [e, e_p2]; exact fZ_tr f_g2 fn227_z
                clear e
                refine oS_dl ?_
                exact f_g3
    · exact f_g0
  · unfold dn252
    refine oS_dl ?_
    refine oS_dl ?_
    refine oS_dl ?_
    refine oS_dl ?_
    refine oS_dl ?_
    refine oS_dl ?_
    refine oS_ite (fun hb => ?_) (fun hb => ?_)
    · refine oS_let fun p0 e_p0 => ?_
      refine oS_let fun g1 e => ?_
      have f_g1 : fZ g0 g1 := by rw [e, e_p0]; exact fZ_tr f_g0 fn226_z
      clear e
      refine oS_dl ?_
      exact f_g1
    · refine oS_ite (fun hb => ?_) (fun hb => ?_)
      · refine oS_let fun p0 e_p0 => ?_
        refine oS_let fun g1 e => ?_
        have f_g1 : fZ g0 g1 := by rw [e, e_p0]; exact fZ_tr f_g0 fn226_z
        clear e
        refine oS_dl ?_
        exact f_g1
      · refine oS_ite (fun hb => ?_) (fun hb => ?_)
        · refine oS_let fun p0 e_p0 => ?_
          refine oS_let fun g1 e => ?_
          have f_g1 : fZ g0 g1 := by rw [e, e_p0]; exact fZ_tr f_g0 fn226_z
          clear e
          refine oS_dl ?_
          exact f_g1
        · refine oS_let fun p0 e_p0 => ?_
          refine oS_let fun g1 e => ?_
          have f_g1 : fZ g0 g1 := by rw [e, e_p0]; exact fZ_tr f_g0 fn226_z
          clear e
          refine oS_dl ?_
          exact f_g1
theorem fn253_z {x : List Int} {g0 : rHp} : fZ g0 (fn253 x g0).2.2 := by
  have f_g0 : fZ g0 g0 := fZ_refl
  show oP (fun h => fZ g0 h) (fn253 x g0)
  unfold fn253
  refine oP_dl ?_
  refine oP_dl ?_
  refine oP_dl ?_
  refine oP_ite (fun hb => ?_) (fun hb => ?_)
  · refine oP_let fun p0 e_p0 => ?_
    refine oP_let fun g1 e => ?_
    have f_g1 : fZ g0 g1 := by rw [e, e_p0]; exact fZ_tr f_g0 fn244_z
    clear e
    refine oP_ite (fun hb => ?_) (fun hb => ?_)
    · exact f_g1
    · exact f_g1
  · refine oP_let fun p0 e_p0 => ?_
    refine oP_let fun g1 e => ?_
    have f_g1 : fZ g0 g1 := by rw [e, e_p0]; exact fZ_tr f_g0 fn132_z
    clear e
    refine oP_ite (fun hb => ?_) (fun hb => ?_)
    · refine oP_ite (fun hb => ?_) (fun hb => ?_)
      · refine oP_ite (fun hb => ?_) (fun hb => ?_)
        · refine oP_let fun p1 e_p1 => ?_
          refine oP_let fun g2 e => ?_
          have f_g2 : fZ g0 g2 := by rw [e, e_p1]; exact fZ_tr f_g1 fn230_z
          clear e
          refine oP_ite (fun hb => ?_) (fun hb => ?_)
          · refine oP_let fun p2 e_p2 => ?_
            refine oP_let fun g3 e => ?_
            have f_g3 : fZ g0 g3 := by rw [e, e_p2]; exact fZ_tr f_g2 fn251_z
            clear e
            refine oP_ite (fun hb => ?_) (fun hb => ?_)
            · exact f_g3
            · refine oP_ite (fun hb => ?_) (fun hb => ?_)
              · exact f_g3
              · exact f_g3
          · exact f_g2
        · refine oP_let fun p1 e_p1 => ?_
          refine oP_let fun g2 e => ?_
          have f_g2 : fZ g0 g2 := by rw [e, e_p1]; exact fZ_tr f_g1 fn228_z
          clear e
          refine oP_ite (fun hb => ?_) (fun hb => ?_)
          · exact f_g2
          · refine oP_let fun p2 e_p2 => ?_
            refine oP_let fun g3 e => ?_
            have f_g3 : fZ g0 g3 := by rw [e, e_p2]; exact fZ_tr f_g2 fn251_z
            clear e
            refine oP_ite (fun hb => ?_) (fun hb => ?_)
            · exact f_g3
            · refine oP_ite (fun hb => ?_) (fun hb => ?_)
              · exact f_g3
              · exact f_g3
      · refine oP_ite (fun hb => ?_) (fun hb => ?_)
        · refine oP_let fun p1 e_p1 => ?_
          refine oP_let fun g2 e => ?_
          have f_g2 : fZ g0 g2 := by rw [e, e_p1]; exact fZ_tr f_g1 fn229_z
          clear e
          refine oP_ite (fun hb => ?_) (fun hb => ?_)
          · refine oP_let fun p2 e_p2 => ?_
            refine oP_let fun g3 e => ?_
            have f_g3 : fZ g0 g3 := by rw [e, e_p2]; exact fZ_tr f_g2 fn251_z
            clear e
            refine oP_ite (fun hb => ?_) (fun hb => ?_)
            · exact f_g3
            · refine oP_ite (fun hb => ?_) (fun hb => ?_)
              · exact f_g3
              · exact f_g3
          · exact f_g2
        · refine oP_let fun p1 e_p1 => ?_
          refine oP_let fun g2 e => ?_
          have f_g2 : fZ g0 g2 := by rw [e, e_p1]; exact fZ_tr f_g1 fn231_z
          clear e
          refine oP_ite (fun hb => ?_) (fun hb => ?_)
          · refine oP_let fun p2 e_p2 => ?_
            refine oP_let fun g3 e => ?_
            have f_g3 : fZ g0 g3 := by rw [e, e_p2]; exact fZ_tr f_g2 fn251_z
            clear e
            refine oP_ite (fun hb => ?_) (fun hb => ?_)
            · exact f_g3
            · refine oP_ite (fun hb => ?_) (fun hb => ?_)
              · exact f_g3
              · exact f_g3
          · exact f_g2
    · refine oP_let fun p1 e_p1 => ?_
      refine oP_let fun g2 e => ?_
      have f_g2 : fZ g0 g2 := by rw [e, e_p1]; exact fZ_tr f_g1 fn252_z
      clear e
      refine oP_ite (fun hb => ?_) (fun hb => ?_)
      · exact f_g2
      · refine oP_ite (fun hb => ?_) (fun hb => ?_)
        · exact f_g2
        · exact f_g2
theorem fn254_z {x : List Int} {g0 : rHp} : fZ g0 (fn254 x g0).2.2 := by
  have f_g0 : fZ g0 g0 := fZ_refl
  refine zGoo_P (I := fun s => fZ g0 s.2.2) fZ_zero (fun s hs => ?_) ?_
  · unfold en254
    refine oS_ite (fun hb => ?_) (fun hb => ?_)
    · refine oS_let fun g1 e => ?_
      have f_g1 : fZ g0 g1 := by rw [e]; exact hs
      clear e
      refine oS_dl ?_
      refine oS_dl ?_
      refine oS_dl ?_
      refine oS_dl ?_
      refine oS_dl ?_
      refine oS_dl ?_
      refine oS_dl ?_
      refine oS_dl ?_
      refine oS_ite (fun hb => ?_) (fun hb => ?_)
      · exact f_g1
      · refine oS_ite (fun hb => ?_) (fun hb => ?_)
        · exact f_g1
        · refine oS_ite (fun hb => ?_) (fun hb => ?_)
          · exact f_g1
          · refine oS_ite (fun hb => ?_) (fun hb => ?_)
            · refine oS_let fun p1 e_p1 => ?_
              refine oS_let fun g2 e => ?_
              have f_g2 : fZ g0 g2 := by rw [e, e_p1]; exact fZ_tr f_g1 fn227_z
              clear e
              refine oS_dl ?_
              exact f_g2
            · refine oS_let fun p1 e_p1 => ?_
              refine oS_let fun g2 e => ?_
              have f_g2 : fZ g0 g2 := by rw [e, e_p1]; exact fZ_tr f_g1 fn225_z
              clear e
              refine oS_ite (fun hb => ?_) (fun hb => ?_)
              · refine oS_let fun p2 e_p2 => ?_
                refine oS_let fun g3 e => ?_
                have f_g3 : fZ g0 g3 := by rw [e, e_p2]; exact fZ_tr f_g2 fn232_z
                clear e
                refine oS_ite (fun hb => ?_) (fun hb => ?_)
                · refine oS_ite (fun hb => ?_) (fun hb => ?_)
                  · refine oS_let fun g4 e => ?_
                    have f_g4 : fZ g0 g4 := by rw [e]; exact fZ_up f_g3 (by decide)
                    clear e
                    refine oS_let fun p4 e_p4 => ?_
                    refine oS_let fun g5 e => ?_
                    have f_g5 : fZ g0 g5 := by rw [e, e_p4]; exact fZ_tr f_g4 fn253_z
                    clear e
                    refine oS_ite (fun hb => ?_) (fun hb => ?_)
                    · refine oS_dl ?_
                      refine oS_let fun g6 e => ?_
                      have f_g6 : fZ g0 g6 := by rw [e]; exact fZ_up f_g5 (by decide)
                      clear e
                      refine oS_let fun p6 e_p6 => ?_
                      refine oS_let fun g7 e => ?_
                      have f_g7 : fZ g0 g7 := by rw [e, e_p6]; exact fZ_tr f_g6 fn227_z
                      clear e
                      refine oS_dl ?_
                      exact f_g7
                    · refine oS_ite (fun hb => ?_) (fun hb => ?_)
                      · exact f_g5
                      · exact f_g5
                  · refine oS_dl ?_
                    refine oS_let fun g4 e => ?_
                    have f_g4 : fZ g0 g4 := by rw [e]; exact fZ_up f_g3 (by decide)
                    clear e
                    refine oS_let fun p4 e_p4 => ?_
                    refine oS_let fun g5 e => ?_
                    have f_g5 : fZ g0 g5 := by rw [e, e_p4]; exact fZ_tr f_g4 fn253_z
                    clear e
                    refine oS_ite (fun hb => ?_) (fun hb => ?_)
                    · refine oS_dl ?_
                      refine oS_dl ?_
                      refine oS_let fun g6 e => ?_
                      have f_g6 : fZ g0 g6 := by rw [e]; exact fZ_up f_g5 (by decide)
                      clear e
                      refine oS_let fun p6 e_p6 => ?_
                      refine oS_let fun g7 e => ?_
                      have f_g7 : fZ g0 g7 := by rw [e, e_p6]; exact fZ_tr f_g6 fn227_z
                      clear e
                      refine oS_dl ?_
                      exact f_g7
                    · refine oS_ite (fun hb => ?_) (fun hb => ?_)
                      · exact f_g5
                      · exact f_g5
                · exact f_g3
              · refine oS_let fun p2 e_p2 => ?_
                refine oS_let fun g3 e => ?_
                have f_g3 : fZ g0 g3 := by rw [e, e_p2]; exact fZ_tr f_g2 fn227_z
                clear e
                refine oS_dl ?_
                exact f_g3
    · exact f_g0
  · unfold dn254
    refine oS_dl ?_
    refine oS_dl ?_
    refine oS_dl ?_
    refine oS_dl ?_
    refine oS_dl ?_
    refine oS_dl ?_
    refine oS_ite (fun hb => ?_) (fun hb => ?_)
    · refine oS_let fun p0 e_p0 => ?_
      refine oS_let fun g1 e => ?_
      have f_g1 : fZ g0 g1 := by rw [e, e_p0]; exact fZ_tr f_g0 fn226_z
      clear e
      refine oS_dl ?_
      exact f_g1
    · refine oS_ite (fun hb => ?_) (fun hb => ?_)
      · refine oS_let fun p0 e_p0 => ?_
        refine oS_let fun g1 e => ?_
        have f_g1 : fZ g0 g1 := by rw [e, e_p0]; exact fZ_tr f_g0 fn226_z
        clear e
        refine oS_dl ?_
        exact f_g1
      · refine oS_ite (fun hb => ?_) (fun hb => ?_)
        · refine oS_let fun p0 e_p0 => ?_
          refine oS_let fun g1 e => ?_
          have f_g1 : fZ g0 g1 := by rw [e, e_p0]; exact fZ_tr f_g0 fn226_z
          clear e
          refine oS_dl ?_
          exact f_g1
        · refine oS_let fun p0 e_p0 => ?_
          refine oS_let fun g1 e => ?_
          have f_g1 : fZ g0 g1 := by rw [e, e_p0]; exact fZ_tr f_g0 fn226_z
          clear e
          refine oS_dl ?_
          exact f_g1
theorem fn255_z {x : List Int} {g0 : rHp} : fZ g0 (fn255 x g0).2.2 := by
  have f_g0 : fZ g0 g0 := fZ_refl
  show oP (fun h => fZ g0 h) (fn255 x g0)
  unfold fn255
  refine oP_dl ?_
  refine oP_dl ?_
  refine oP_dl ?_
  refine oP_ite (fun hb => ?_) (fun hb => ?_)
  · refine oP_let fun p0 e_p0 => ?_
    refine oP_let fun g1 e => ?_
    have f_g1 : fZ g0 g1 := by rw [e, e_p0]; exact fZ_tr f_g0 fn244_z
    clear e
    refine oP_ite (fun hb => ?_) (fun hb => ?_)
    · exact f_g1
    · exact f_g1
  · refine oP_let fun p0 e_p0 => ?_
    refine oP_let fun g1 e => ?_
    have f_g1 : fZ g0 g1 := by rw [e, e_p0]; exact fZ_tr f_g0 fn132_z
    clear e
    refine oP_ite (fun hb => ?_) (fun hb => ?_)
    · refine oP_ite (fun hb => ?_) (fun hb => ?_)
      · refine oP_ite (fun hb => ?_) (fun hb => ?_)
        · refine oP_let fun p1 e_p1 => ?_
          refine oP_let fun g2 e => ?_
          have f_g2 : fZ g0 g2 := by rw [e, e_p1]; exact fZ_tr f_g1 fn230_z
          clear e
          refine oP_ite (fun hb => ?_) (fun hb => ?_)
          · refine oP_let fun p2 e_p2 => ?_
            refine oP_let fun g3 e => ?_
            have f_g3 : fZ g0 g3 := by rw [e, e_p2]; exact fZ_tr f_g2 fn253_z
            clear e
            refine oP_ite (fun hb => ?_) (fun hb => ?_)
            · exact f_g3
            · refine oP_ite (fun hb => ?_) (fun hb => ?_)
              · exact f_g3
              · exact f_g3
          · exact f_g2
        · refine oP_let fun p1 e_p1 => ?_
          refine oP_let fun g2 e => ?_
          have f_g2 : fZ g0 g2 := by rw [e, e_p1]; exact fZ_tr f_g1 fn228_z
          clear e
          refine oP_ite (fun hb => ?_) (fun hb => ?_)
          · exact f_g2
          · refine oP_let fun p2 e_p2 => ?_
            refine oP_let fun g3 e => ?_
            have f_g3 : fZ g0 g3 := by rw [e, e_p2]; exact fZ_tr f_g2 fn253_z
            clear e
            refine oP_ite (fun hb => ?_) (fun hb => ?_)
            · exact f_g3
            · refine oP_ite (fun hb => ?_) (fun hb => ?_)
              · exact f_g3
              · exact f_g3
      · refine oP_ite (fun hb => ?_) (fun hb => ?_)
        · refine oP_let fun p1 e_p1 => ?_
          refine oP_let fun g2 e => ?_
          have f_g2 : fZ g0 g2 := by rw [e, e_p1]; exact fZ_tr f_g1 fn229_z
          clear e
          refine oP_ite (fun hb => ?_) (fun hb => ?_)
          · refine oP_let fun p2 e_p2 => ?_
            refine oP_let fun g3 e => ?_
            have f_g3 : fZ g0 g3 := by rw [e, e_p2]; exact fZ_tr f_g2 fn253_z
            clear e
            refine oP_ite (fun hb => ?_) (fun hb => ?_)
            · exact f_g3
            · refine oP_ite (fun hb => ?_) (fun hb => ?_)
              · exact f_g3
              · exact f_g3
          · exact f_g2
        · refine oP_let fun p1 e_p1 => ?_
          refine oP_let fun g2 e => ?_
          have f_g2 : fZ g0 g2 := by rw [e, e_p1]; exact fZ_tr f_g1 fn231_z
          clear e
          refine oP_ite (fun hb => ?_) (fun hb => ?_)
          · refine oP_let fun p2 e_p2 => ?_
            refine oP_let fun g3 e => ?_
            have f_g3 : fZ g0 g3 := by rw [e, e_p2]; exact fZ_tr f_g2 fn253_z
            clear e
            refine oP_ite (fun hb => ?_) (fun hb => ?_)
            · exact f_g3
            · refine oP_ite (fun hb => ?_) (fun hb => ?_)
              · exact f_g3
              · exact f_g3
          · exact f_g2
    · refine oP_let fun p1 e_p1 => ?_
      refine oP_let fun g2 e => ?_
      have f_g2 : fZ g0 g2 := by rw [e, e_p1]; exact fZ_tr f_g1 fn254_z
      clear e
      refine oP_ite (fun hb => ?_) (fun hb => ?_)
      · exact f_g2
      · refine oP_ite (fun hb => ?_) (fun hb => ?_)
        · exact f_g2
        · exact f_g2
theorem fn256_z {x : List Int} {g0 : rHp} : fZ g0 (fn256 x g0).2.2 := by
  have f_g0 : fZ g0 g0 := fZ_refl
  refine zGoo_P (I := fun s => fZ g0 s.2.2) fZ_zero (fun s hs => ?_) ?_
  · unfold en256
    refine oS_ite (fun hb => ?_) (fun hb => ?_)
    · refine oS_let fun g1 e => ?_
      have f_g1 : fZ g0 g1 := by rw [e]; exact hs
      clear e
      refine oS_dl ?_
      refine oS_dl ?_
      refine oS_dl ?_
      refine oS_dl ?_
      refine oS_dl ?_
      refine oS_dl ?_
      refine oS_dl ?_
      refine oS_dl ?_
      refine oS_ite (fun hb => ?_) (fun hb => ?_)
      · exact f_g1
      · refine oS_ite (fun hb => ?_) (fun hb => ?_)
        · exact f_g1
        · refine oS_ite (fun hb => ?_) (fun hb => ?_)
          · exact f_g1
          · refine oS_ite (fun hb => ?_) (fun hb => ?_)
            · refine oS_let fun p1 e_p1 => ?_
              refine oS_let fun g2 e => ?_
              have f_g2 : fZ g0 g2 := by rw [e, e_p1]; exact fZ_tr f_g1 fn227_z
              clear e
              refine oS_dl ?_
              exact f_g2
            · refine oS_let fun p1 e_p1 => ?_
              refine oS_let fun g2 e => ?_
              have f_g2 : fZ g0 g2 := by rw [e, e_p1]; exact fZ_tr f_g1 fn225_z
              clear e
              refine oS_ite (fun hb => ?_) (fun hb => ?_)
              · refine oS_let fun p2 e_p2 => ?_
                refine oS_let fun g3 e => ?_
                have f_g3 : fZ g0 g3 := by rw [e, e_p2]; exact fZ_tr f_g2 fn232_z
                clear e
                refine oS_ite (fun hb => ?_) (fun hb => ?_)
                · refine oS_ite (fun hb => ?_) (fun hb => ?_)
                  · refine oS_let fun g4 e => ?_
                    have f_g4 : fZ g0 g4 := by rw [e]; exact fZ_up f_g3 (by decide)
                    clear e
                    refine oS_let fun p4 e_p4 => ?_
                    refine oS_let fun g5 e => ?_
                    have f_g5 : fZ g0 g5 := by rw [e, e_p4]; exact fZ_tr f_g4 fn255_z
                    clear e
                    refine oS_ite (fun hb => ?_) (fun hb => ?_)
                    · refine oS_dl ?_
                      refine oS_let fun g6 e => ?_
                      have f_g6 : fZ g0 g6 := by rw [e]; exact fZ_up f_g5 (by decide)
                      clear e
                      refine oS_let fun p6 e_p6 => ?_
                      refine oS_let fun g7 e => ?_
                      have f_g7 : fZ g0 g7 := by rw [e, e_p6]; exact fZ_tr f_g6 fn227_z
                      clear e
                      refine oS_dl ?_
                      exact f_g7
                    · refine oS_ite (fun hb => ?_) (fun hb => ?_)
                      · exact f_g5
                      · exact f_g5
                  · refine oS_dl ?_
                    refine oS_let fun g4 e => ?_
                    have f_g4 : fZ g0 g4 := by rw [e]; exact fZ_up f_g3 (by decide)
                    clear e
                    refine oS_let fun p4 e_p4 => ?_
                    refine oS_let fun g5 e => ?_
                    have f_g5 : fZ g0 g5 := by rw [e, e_p4]; exact fZ_tr f_g4 fn255_z
                    clear e
                    refine oS_ite (fun hb => ?_) (fun hb => ?_)
                    · refine oS_dl ?_
                      refine oS_dl ?_
                      refine oS_let fun g6 e => ?_
                      have f_g6 : fZ g0 g6 := by rw [e]; exact fZ_up f_g5 (by decide)
                      clear e
                      refine oS_let fun p6 e_p6 => ?_
                      refine oS_let fun g7 e => ?_
                      have f_g7 : fZ g0 g7 := by rw [e, e_p6]; exact fZ_tr f_g6 fn227_z
                      clear e
                      refine oS_dl ?_
                      exact f_g7
                    · refine oS_ite (fun hb => ?_) (fun hb => ?_)
                      · exact f_g5
                      · exact f_g5
                · exact f_g3
              · refine oS_let fun p2 e_p2 => ?_
                refine oS_let fun g3 e => ?_
                have f_g3 : fZ g0 g3 := by rw [e, e_p2]; exact fZ_tr f_g2 fn227_z
                clear e
                refine oS_dl ?_
                exact f_g3
    · exact f_g0
  · unfold dn256
    refine oS_dl ?_
    refine oS_dl ?_
    refine oS_dl ?_
    refine oS_dl ?_
    refine oS_dl ?_
    refine oS_dl ?_
    refine oS_ite (fun hb => ?_) (fun hb => ?_)
    · refine oS_let fun p0 e_p0 => ?_
      refine oS_let fun g1 e => ?_
      have f_g1 : fZ g0 g1 := by rw [e, e_p0]; exact fZ_tr f_g0 fn226_z
      clear e
      refine oS_dl ?_
      exact f_g1
    · refine oS_ite (fun hb => ?_) (fun hb => ?_)
      · refine oS_let fun p0 e_p0 => ?_
        refine oS_let fun g1 e => ?_
        have f_g1 : fZ g0 g1 := by rw [e, e_p0]; exact fZ_tr f_g0 fn226_z
        clear e
        refine oS_dl ?_
        exact f_g1
      · refine oS_ite (fun hb => ?_) (fun hb => ?_)
        · refine oS_let fun p0 e_p0 => ?_
          refine oS_let fun g1 e => ?_
          have f_g1 : fZ g0 g1 := by rw [e, e_p0]; exact fZ_tr f_g0 fn226_z
          clear e
          refine oS_dl ?_
          exact f_g1
        · refine oS_let fun p0 e_p0 => ?_
          refine oS_let fun g1 e => ?_
          have f_g1 : fZ g0 g1 := by rw [e, e_p0]; exact fZ_tr f_g0 fn226_z
          clear e
          refine oS_dl ?_
          exact f_g1
theorem fn257_z {x : List Int} {g0 : rHp} : fZ g0 (fn257 x g0).2.2 := by
  have f_g0 : fZ g0 g0 := fZ_refl
  show oP (fun h => fZ g0 h) (fn257 x g0)
  unfold fn257
  refine oP_dl ?_
  refine oP_dl ?_
  refine oP_dl ?_
  refine oP_ite (fun hb => ?_) (fun hb => ?_)
  · refine oP_let fun p0 e_p0 => ?_
    refine oP_let fun g1 e => ?_
    have f_g1 : fZ g0 g1 := by rw [e, e_p0]; exact fZ_tr f_g0 fn244_z
    clear e
    refine oP_ite (fun hb => ?_) (fun hb => ?_)
    · exact f_g1
    · exact f_g1
  · refine oP_let fun p0 e_p0 => ?_
    refine oP_let fun g1 e => ?_
    have f_g1 : fZ g0 g1 := by rw [e, e_p0]; exact fZ_tr f_g0 fn132_z
    clear e
    refine oP_ite (fun hb => ?_) (fun hb => ?_)
    · refine oP_ite (fun hb => ?_) (fun hb => ?_)
      · refine oP_ite (fun hb => ?_) (fun hb => ?_)
        · refine oP_let fun p1 e_p1 => ?_
          refine oP_let fun g2 e => ?_
          have f_g2 : fZ g0 g2 := by rw [e, e_p1]; exact fZ_tr f_g1 fn230_z
          clear e
          refine oP_ite (fun hb => ?_) (fun hb => ?_)
          · refine oP_let fun p2 e_p2 => ?_
            refine oP_let fun g3 e => ?_
            have f_g3 : fZ g0 g3 := by rw [e, e_p2]; exact fZ_tr f_g2 fn255_z
            clear e
            refine oP_ite (fun hb => ?_) (fun hb => ?_)
            · exact f_g3
            · refine oP_ite (fun hb => ?_) (fun hb => ?_)
              · exact f_g3
              · exact f_g3
          · exact f_g2
        · refine oP_let fun p1 e_p1 => ?_
          refine oP_let fun g2 e => ?_
          have f_g2 : fZ g0 g2 := by rw [e, e_p1]; exact fZ_tr f_g1 fn228_z
          clear e
          refine oP_ite (fun hb => ?_) (fun hb => ?_)
          · exact f_g2
          · refine oP_let fun p2 e_p2 => ?_
            refine oP_let fun g3 e => ?_
            have f_g3 : fZ g0 g3 := by rw [e, e_p2]; exact fZ_tr f_g2 fn255_z
            clear e
            refine oP_ite (fun hb => ?_) (fun hb => ?_)
            · exact f_g3
            · refine oP_ite (fun hb => ?_) (fun hb => ?_)
              · exact f_g3
              · exact f_g3
      · refine oP_ite (fun hb => ?_) (fun hb => ?_)
        · refine oP_let fun p1 e_p1 => ?_
          refine oP_let fun g2 e => ?_
          have f_g2 : fZ g0 g2 := by rw [e, e_p1]; exact fZ_tr f_g1 fn229_z
          clear e
          refine oP_ite (fun hb => ?_) (fun hb => ?_)
          · refine oP_let fun p2 e_p2 => ?_
            refine oP_let fun g3 e => ?_
            have f_g3 : fZ g0 g3 := by rw [e, e_p2]; exact fZ_tr f_g2 fn255_z
            clear e
            refine oP_ite (fun hb => ?_) (fun hb => ?_)
            · exact f_g3
            · refine oP_ite (fun hb => ?_) (fun hb => ?_)
              · exact f_g3
              · exact f_g3
          · exact f_g2
        · refine oP_let fun p1 e_p1 => ?_
          refine oP_let fun g2 e => ?_
          have f_g2 : fZ g0 g2 := by rw [e, e_p1]; exact fZ_tr f_g1 fn231_z
          clear e
          refine oP_ite (fun hb => ?_) (fun hb => ?_)
          · refine oP_let fun p2 e_p2 => ?_
            refine oP_let fun g3 e => ?_
            have f_g3 : fZ g0 g3 := by rw [e, e_p2]; exact fZ_tr f_g2 fn255_z
            clear e
            refine oP_ite (fun hb => ?_) (fun hb => ?_)
            · exact f_g3
            · refine oP_ite (fun hb => ?_) (fun hb => ?_)
              · exact f_g3
              · exact f_g3
          · exact f_g2
    · refine oP_let fun p1 e_p1 => ?_
      refine oP_let fun g2 e => ?_
      have f_g2 : fZ g0 g2 := by rw [e, e_p1]; exact fZ_tr f_g1 fn256_z
      clear e
      refine oP_ite (fun hb => ?_) (fun hb => ?_)
      · exact f_g2
      · refine oP_ite (fun hb => ?_) (fun hb => ?_)
        · exact f_g2
        · exact f_g2
theorem fn258_z {x : List Int} {g0 : rHp} : fZ g0 (fn258 x g0).2.2 := by
  have f_g0 : fZ g0 g0 := fZ_refl
  refine zGoo_P (I := fun s => fZ g0 s.2.2) fZ_zero (fun s hs => ?_) ?_
  · unfold en258
    refine oS_ite (fun hb => ?_) (fun hb => ?_)
    · refine oS_let fun g1 e => ?_
      have f_g1 : fZ g0 g1 := by rw [e]; exact hs
      clear e
      refine oS_dl ?_
      refine oS_dl ?_
      refine oS_dl ?_
      refine oS_dl ?_
      refine oS_dl ?_
      refine oS_dl ?_
      refine oS_dl ?_
      refine oS_dl ?_
      refine oS_ite (fun hb => ?_) (fun hb => ?_)
      · exact f_g1
      · refine oS_ite (fun hb => ?_) (fun hb => ?_)
        · exact f_g1
        · refine oS_ite (fun hb => ?_) (fun hb => ?_)
          · exact f_g1
          · refine oS_ite (fun hb => ?_) (fun hb => ?_)
            · refine oS_let fun p1 e_p1 => ?_
              refine oS_let fun g2 e => ?_
              have f_g2 : fZ g0 g2 := by rw [e, e_p1]; exact fZ_tr f_g1 fn227_z
              clear e
              refine oS_dl ?_
              exact f_g2
            · refine oS_let fun p1 e_p1 => ?_
              refine oS_let fun g2 e => ?_
              have f_g2 : fZ g0 g2 := by rw [e, e_p1]; exact fZ_tr f_g1 fn225_z
              clear e
              refine oS_ite (fun hb => ?_) (fun hb => ?_)
              · refine oS_let fun p2 e_p2 => ?_
                refine oS_let fun g3 e => ?_
                have f_g3 : fZ g0 g3 := by rw [e, e_p2]; exact fZ_tr f_g2 fn232_z
                clear e
                refine oS_ite (fun hb => ?_) (fun hb => ?_)
                · refine oS_ite (fun hb => ?_) (fun hb => ?_)
                  · refine oS_let fun g4 e => ?_
                    have f_g4 : fZ g0 g4 := by rw [e]; exact fZ_up f_g3 (by decide)
                    clear e
                    refine oS_let fun p4 e_p4 => ?_
                    refine oS_let fun g5 e => ?_
                    have f_g5 : fZ g0 g5 := by rw [e, e_p4]; exact fZ_tr f_g4 fn257_z
                    clear e
                    refine oS_ite (fun hb => ?_) (fun hb => ?_)
                    · refine oS_dl ?_
                      refine oS_let fun g6 e => ?_
                      have f_g6 : fZ g0 g6 := by rw [e]; exact fZ_up f_g5 (by decide)
                      clear e
                      refine oS_let fun p6 e_p6 => ?_
                      refine oS_let fun g7 e => ?_
                      have f_g7 : fZ g0 g7 := by rw [e, e_p6]; exact fZ_tr f_g6 fn227_z
                      clear e
                      refine oS_dl ?_
                      exact f_g7
                    · refine oS_ite (fun hb => ?_) (fun hb => ?_)
                      · exact f_g5
                      · exact f_g5
                  · refine oS_dl ?_
                    refine oS_let fun g4 e => ?_
                    have f_g4 : fZ g0 g4 := by rw [e]; exact fZ_up f_g3 (by decide)
                    clear e
                    refine oS_let fun p4 e_p4 => ?_
                    refine oS_let fun g5 e => ?_
                    have f_g5 : fZ g0 g5 := by rw [e, e_p4]; exact fZ_tr f_g4 fn257_z
                    clear e
                    refine oS_ite (fun hb => ?_) (fun hb => ?_)
                    · refine oS_dl ?_
                      refine oS_dl ?_
                      refine oS_let fun g6 e => ?_
                      have f_g6 : fZ g0 g6 := by rw [e]; exact fZ_up f_g5 (by decide)
                      clear e
                      refine oS_let fun p6 e_p6 => ?_
                      refine oS_let fun g7 e => ?_
                      have f_g7 : fZ g0 g7 := by rw [e, e_p6]; exact fZ_tr f_g6 fn227_z
                      clear e
                      refine oS_dl ?_
                      exact f_g7
                    · refine oS_ite (fun hb => ?_) (fun hb => ?_)
                      · exact f_g5
                      · exact f_g5
                · exact f_g3
              · refine oS_let fun p2 e_p2 => ?_
                refine oS_let fun g3 e => ?_
                have f_g3 : fZ g0 g3 := by rw [e, e_p2]; exact fZ_tr f_g2 fn227_z
                clear e
                refine oS_dl ?_
                exact f_g3
    · exact f_g0
  · unfold dn258
    refine oS_dl ?_
    refine oS_dl ?_
    refine oS_dl ?_
    refine oS_dl ?_
    refine oS_dl ?_
    refine oS_dl ?_
    refine oS_ite (fun hb => ?_) (fun hb => ?_)
    · refine oS_let fun p0 e_p0 => ?_
      refine oS_let fun g1 e => ?_
      have f_g1 : fZ g0 g1 := by rw [e, e_p0]; exact fZ_tr f_g0 fn226_z
      clear e
      refine oS_dl ?_
      exact f_g1
    · refine oS_ite (fun hb => ?_) (fun hb => ?_)
      · refine oS_let fun p0 e_p0 => ?_
        refine oS_let fun g1 e => ?_
        have f_g1 : fZ g0 g1 := by rw [e, e_p0]; exact fZ_tr f_g0 fn226_z
        clear e
        refine oS_dl ?_
        exact f_g1
      · refine oS_ite (fun hb => ?_) (fun hb => ?_)
        · refine oS_let fun p0 e_p0 => ?_
          refine oS_let fun g1 e => ?_
          have f_g1 : fZ g0 g1 := by rw [e, e_p0]; exact fZ_tr f_g0 fn226_z
          clear e
          refine oS_dl ?_
          exact f_g1
        · refine oS_let fun p0 e_p0 => ?_
          refine oS_let fun g1 e => ?_
          have f_g1 : fZ g0 g1 := by rw [e, e_p0]; exact fZ_tr f_g0 fn226_z
          clear e
          refine oS_dl ?_
          exact f_g1
theorem fn259_z {x : List Int} {g0 : rHp} : fZ g0 (fn259 x g0).2.2 := by
  have f_g0 : fZ g0 g0 := fZ_refl
  show oP (fun h => fZ g0 h) (fn259 x g0)
  unfold fn259
  refine oP_dl ?_
  refine oP_dl ?_
  refine oP_dl ?_
  refine oP_ite (fun hb => ?_) (fun hb => ?_)
  · refine oP_let fun p0 e_p0 => ?_
    refine oP_let fun g1 e => ?_
    have f_g1 : fZ g0 g1 := by rw [e, e_p0]; exact fZ_tr f_g0 fn244_z
    clear e
    refine oP_ite (fun hb => ?_) (fun hb => ?_)
    · exact f_g1
    · exact f_g1
  · refine oP_let fun p0 e_p0 => ?_
    refine oP_let fun g1 e => ?_
    have f_g1 : fZ g0 g1 := by rw [e, e_p0]; exact fZ_tr f_g0 fn132_z
    clear e
    refine oP_ite (fun hb => ?_) (fun hb => ?_)
    · refine oP_ite (fun hb => ?_) (fun hb => ?_)
      · refine oP_ite (fun hb => ?_) (fun hb => ?_)
        · refine oP_let fun p1 e_p1 => ?_
          refine oP_let fun g2 e => ?_
          have f_g2 : fZ g0 g2 := by rw [e, e_p1]; exact fZ_tr f_g1 fn230_z
          clear e
          refine oP_ite (fun hb => ?_) (fun hb => ?_)
          · refine oP_let fun p2 e_p2 => ?_
            refine oP_let fun g3 e => ?_
            have f_g3 : fZ g0 g3 := by rw [e, e_p2]; exact fZ_tr f_g2 fn257_z
            clear e
            refine oP_ite (fun hb => ?_) (fun hb => ?_)
            · exact f_g3
            · refine oP_ite (fun hb => ?_) (fun hb => ?_)
              · exact f_g3
              · exact f_g3
          · exact f_g2
        · refine oP_let fun p1 e_p1 => ?_
          refine oP_let fun g2 e => ?_
          have f_g2 : fZ g0 g2 := by rw [e, e_p1]; exact fZ_tr f_g1 fn228_z
          clear e
          refine oP_ite (fun hb => ?_) (fun hb => ?_)
          · exact f_g2
          · refine oP_let fun p2 e_p2 => ?_
            refine oP_let fun g3 e => ?_
            have f_g3 : fZ g0 g3 := by rw [e, e_p2]; exact fZ_tr f_g2 fn257_z
            clear e
            refine oP_ite (fun hb => ?_) (fun hb => ?_)
            · exact f_g3
            · refine oP_ite (fun hb => ?_) (fun hb => ?_)
              · exact f_g3
              · exact f_g3
      · refine oP_ite (fun hb => ?_) (fun hb => ?_)
        · refine oP_let fun p1 e_p1 => ?_
          refine oP_let fun g2 e => ?_
          have f_g2 : fZ g0 g2 := by rw [e, e_p1]; exact fZ_tr f_g1 fn229_z
          clear e
          refine oP_ite (fun hb => ?_) (fun hb => ?_)
          · refine oP_let fun p2 e_p2 => ?_
            refine oP_let fun g3 e => ?_
            have f_g3 : fZ g0 g3 := by rw [e, e_p2]; exact fZ_tr f_g2 fn257_z
            clear e
            refine oP_ite (fun hb => ?_) (fun hb => ?_)
            · exact f_g3
            · refine oP_ite (fun hb => ?_) (fun hb => ?_)
              · exact f_g3
              · exact f_g3
          · exact f_g2
        · refine oP_let fun p1 e_p1 => ?_
          refine oP_let fun g2 e => ?_
          have f_g2 : fZ g0 g2 := by rw [e, e_p1]; exact fZ_tr f_g1 fn231_z
          clear e
          refine oP_ite (fun hb => ?_) (fun hb => ?_)
          · refine oP_let fun p2 e_p2 => ?_
            refine oP_let fun g3 e => ?_
            have f_g3 : fZ g0 g3 := by rw [e, e_p2]; exact fZ_tr f_g2 fn257_z
            clear e
            refine oP_ite (fun hb => ?_) (fun hb => ?_)
            · exact f_g3
            · refine oP_ite (fun hb => ?_) (fun hb => ?_)
              · exact f_g3
              · exact f_g3
          · exact f_g2
    · refine oP_let fun p1 e_p1 => ?_
      refine oP_let fun g2 e => ?_
      have f_g2 : fZ g0 g2 := by rw [e, e_p1]; exact fZ_tr f_g1 fn258_z
      clear e
      refine oP_ite (fun hb => ?_) (fun hb => ?_)
      · exact f_g2
      · refine oP_ite (fun hb => ?_) (fun hb => ?_)
        · exact f_g2
        · exact f_g2
theorem fn260_z {x : List Int} {g0 : rHp} : fZ g0 (fn260 x g0).2.2 := by
  have f_g0 : fZ g0 g0 := fZ_refl
  refine zGoo_P (I := fun s => fZ g0 s.2.2) fZ_zero (fun s hs => ?_) ?_
  · unfold en260
    refine oS_ite (fun hb => ?_) (fun hb => ?_)
    · refine oS_let fun g1 e => ?_
      have f_g1 : fZ g0 g1 := by rw [e]; exact hs
      clear e
      refine oS_dl ?_
      refine oS_dl ?_
      refine oS_dl ?_
      refine oS_dl ?_
      refine oS_dl ?_
      refine oS_dl ?_
      refine oS_dl ?_
      refine oS_dl ?_
      refine oS_ite (fun hb => ?_) (fun hb => ?_)
      · exact f_g1
      · refine oS_ite (fun hb => ?_) (fun hb => ?_)
        · exact f_g1
        · refine oS_ite (fun hb => ?_) (fun hb => ?_)
          · exact f_g1
          · refine oS_ite (fun hb => ?_) (fun hb => ?_)
            · refine oS_let fun p1 e_p1 => ?_
              refine oS_let fun g2 e => ?_
              have f_g2 : fZ g0 g2 := by rw [e, e_p1]; exact fZ_tr f_g1 fn227_z
              clear e
              refine oS_dl ?_
              exact f_g2
            · refine oS_let fun p1 e_p1 => ?_
              refine oS_let fun g2 e => ?_
              have f_g2 : fZ g0 g2 := by rw [e, e_p1]; exact fZ_tr f_g1 fn225_z
              clear e
              refine oS_ite (fun hb => ?_) (fun hb => ?_)
              · refine oS_let fun p2 e_p2 => ?_
                refine oS_let fun g3 e => ?_
                have f_g3 : fZ g0 g3 := by rw [e, e_p2]; exact fZ_tr f_g2 fn232_z
                clear e
                refine oS_ite (fun hb => ?_) (fun hb => ?_)
                · refine oS_ite (fun hb => ?_) (fun hb => ?_)
                  · refine oS_let fun g4 e => ?_
                    have f_g4 : fZ g0 g4 := by rw [e]; exact fZ_up f_g3 (by decide)
                    clear e
                    refine oS_let fun p4 e_p4 => ?_
                    refine oS_let fun g5 e => ?_
                    have f_g5 : fZ g0 g5 := by rw [e, e_p4]; exact fZ_tr f_g4 fn259_z
                    clear e
                    refine oS_ite (fun hb => ?_) (fun hb => ?_)
                    · refine oS_dl ?_
                      refine oS_let fun g6 e => ?_
                      have f_g6 : fZ g0 g6 := by rw [e]; exact fZ_up f_g5 (by decide)
                      clear e
                      refine oS_let fun p6 e_p6 => ?_
                      refine oS_let fun g7 e => ?_
                      have f_g7 : fZ g0 g7 := by rw [e, e_p6]; exact fZ_tr f_g6 fn227_z
                      clear e
                      refine oS_dl ?_
                      exact f_g7
                    · refine oS_ite (fun hb => ?_) (fun hb => ?_)
                      · exact f_g5
                      · exact f_g5
                  · refine oS_dl ?_
                    refine oS_let fun g4 e => ?_
                    have f_g4 : fZ g0 g4 := by rw [e]; exact fZ_up f_g3 (by decide)
                    clear e
                    refine oS_let fun p4 e_p4 => ?_
                    refine oS_let fun g5 e => ?_
                    have f_g5 : fZ g0 g5 := by rw [e, e_p4]; exact fZ_tr f_g4 fn259_z
                    clear e
                    refine oS_ite (fun hb => ?_) (fun hb => ?_)
                    · refine oS_dl ?_
                      refine oS_dl ?_
                      refine oS_let fun g6 e => ?_
                      have f_g6 : fZ g0 g6 := by rw [e]; exact fZ_up f_g5 (by decide)
                      clear e
                      refine oS_let fun p6 e_p6 => ?_
                      refine oS_let fun g7 e => ?_
                      have f_g7 : fZ g0 g7 := by rw [e, e_p6]; exact fZ_tr f_g6 fn227_z
                      clear e
                      refine oS_dl ?_
                      exact f_g7
                    · refine oS_ite (fun hb => ?_) (fun hb => ?_)
                      · exact f_g5
                      · exact f_g5
                · exact f_g3
              · refine oS_let fun p2 e_p2 => ?_
                refine oS_let fun g3 e => ?_
                have f_g3 : fZ g0 g3 := by rw [e, e_p2]; exact fZ_tr f_g2 fn227_z
                clear e
                refine oS_dl ?_
                exact f_g3
    · exact f_g0
  · unfold dn260
    refine oS_dl ?_
    refine oS_dl ?_
    refine oS_dl ?_
    refine oS_dl ?_
    refine oS_dl ?_
    refine oS_dl ?_
    refine oS_ite (fun hb => ?_) (fun hb => ?_)
    · refine oS_let fun p0 e_p0 => ?_
      refine oS_let fun g1 e => ?_
      have f_g1 : fZ g0 g1 := by rw [e, e_p0]; exact fZ_tr f_g0 fn226_z
      clear e
      refine oS_dl ?_
      exact f_g1
    · refine oS_ite (fun hb => ?_) (fun hb => ?_)
      · refine oS_let fun p0 e_p0 => ?_
        refine oS_let fun g1 e => ?_
        have f_g1 : fZ g0 g1 := by rw [e, e_p0]; exact fZ_tr f_g0 fn226_z
        clear e
        refine oS_dl ?_
        exact f_g1
      · refine oS_ite (fun hb => ?_) (fun hb => ?_)
        · refine oS_let fun p0 e_p0 => ?_
          refine oS_let fun g1 e => ?_
          have f_g1 : fZ g0 g1 := by rw [e, e_p0]; exact fZ_tr f_g0 fn226_z
          clear e
          refine oS_dl ?_
          exact f_g1
        · refine oS_let fun p0 e_p0 => ?_
          refine oS_let fun g1 e => ?_
          have f_g1 : fZ g0 g1 := by rw [e, e_p0]; exact fZ_tr f_g0 fn226_z
          clear e
          refine oS_dl ?_
          exact f_g1
theorem fn261_z {x : List Int} {g0 : rHp} : fZ g0 (fn261 x g0).2.2 := by
  have f_g0 : fZ g0 g0 := fZ_refl
  show oP (fun h => fZ g0 h) (fn261 x g0)
  unfold fn261
  refine oP_dl ?_
  refine oP_dl ?_
  refine oP_dl ?_
  refine oP_ite (fun hb => ?_) (fun hb => ?_)
  · refine oP_let fun p0 e_p0 => ?_
    refine oP_let fun g1 e => ?_
    have f_g1 : fZ g0 g1 := by rw [e, e_p0]; exact fZ_tr f_g0 fn244_z
    clear e
    refine oP_ite (fun hb => ?_) (fun hb => ?_)
    · exact f_g1
    · exact f_g1
  · refine oP_let fun p0 e_p0 => ?_
    refine oP_let fun g1 e => ?_
    have f_g1 : fZ g0 g1 := by rw [e, e_p0]; exact fZ_tr f_g0 fn132_z
    clear e
    refine oP_ite (fun hb => ?_) (fun hb => ?_)
    · refine oP_ite (fun hb => ?_) (fun hb => ?_)
      · refine oP_ite (fun hb => ?_) (fun hb => ?_)
        · refine oP_let fun p1 e_p1 => ?_
          refine oP_let fun g2 e => ?_
          have f_g2 : fZ g0 g2 := by rw [e, e_p1]; exact fZ_tr f_g1 fn230_z
          clear e
          refine oP_ite (fun hb => ?_) (fun hb => ?_)
          · refine oP_let fun p2 e_p2 => ?_
            refine oP_let fun g3 e => ?_
            have f_g3 : fZ g0 g3 := by rw [e, e_p2]; exact fZ_tr f_g2 fn259_z
            clear e
            refine oP_ite (fun hb => ?_) (fun hb => ?_)
            · exact f_g3
            · refine oP_ite (fun hb => ?_) (fun hb => ?_)
              · exact f_g3
              · exact f_g3
          · exact f_g2
        · refine oP_let fun p1 e_p1 => ?_
          refine oP_let fun g2 e => ?_
          have f_g2 : fZ g0 g2 := by rw [e, e_p1]; exact fZ_tr f_g1 fn228_z
          clear e
          refine oP_ite (fun hb => ?_) (fun hb => ?_)
          · exact f_g2
          · refine oP_let fun p2 e_p2 => ?_
            refine oP_let fun g3 e => ?_
            have f_g3 : fZ g0 g3 := by rw [e, e_p2]; exact fZ_tr f_g2 fn259_z
            clear e
            refine oP_ite (fun hb => ?_) (fun hb => ?_)
            · exact f_g3
            · refine oP_ite (fun hb => ?_) (fun hb => ?_)
              · exact f_g3
              · exact f_g3
      · refine oP_ite (fun hb => ?_) (fun hb => ?_)
        · refine oP_let fun p1 e_p1 => ?_
          refine oP_let fun g2 e => ?_
          have f_g2 : fZ g0 g2 := by rw [e, e_p1]; exact fZ_tr f_g1 fn229_z
          clear e
          refine oP_ite (fun hb => ?_) (fun hb => ?_)
          · refine oP_let fun p2 e_p2 => ?_
            refine oP_let fun g3 e => ?_
            have f_g3 : fZ g0 g3 := by rw [e, e_p2]; exact fZ_tr f_g2 fn259_z
            clear e
            refine oP_ite (fun hb => ?_) (fun hb => ?_)
            · exact f_g3
            · refine oP_ite (fun hb => ?_) (fun hb => ?_)
              · exact f_g3
              · exact f_g3
          · exact f_g2
        · refine oP_let fun p1 e_p1 => ?_
          refine oP_let fun g2 e => ?_
          have f_g2 : fZ g0 g2 := by rw [e, e_p1]; exact fZ_tr f_g1 fn231_z
          clear e
          refine oP_ite (fun hb => ?_) (fun hb => ?_)
          · refine oP_let fun p2 e_p2 => ?_
            refine oP_let fun g3 e => ?_
            have f_g3 : fZ g0 g3 := by rw [e, e_p2]; exact fZ_tr f_g2 fn259_z
            clear e
            refine oP_ite (fun hb => ?_) (fun hb => ?_)
            · exact f_g3
            · refine oP_ite (fun hb => ?_) (fun hb => ?_)
              · exact f_g3
              · exact f_g3
          · exact f_g2
    · refine oP_let fun p1 e_p1 => ?_
      refine oP_let fun g2 e => ?_
      have f_g2 : fZ g0 g2 := by rw [e, e_p1]; exact fZ_tr f_g1 fn260_z
      clear e
      refine oP_ite (fun hb => ?_) (fun hb => ?_)
      · exact f_g2
      · refine oP_ite (fun hb => ?_) (fun hb => ?_)
        · exact f_g2
        · exact f_g2
theorem fn263_z {x : List Int} {g0 : rHp} : fZ g0 (fn263 x g0).2.2 := by
  have f_g0 : fZ g0 g0 := fZ_refl
  refine zGoo_P (I := fun s => fZ g0 s.2.2) fZ_zero (fun s hs => ?_) ?_
  · unfold en263
    refine oS_ite (fun hb => ?_) (fun hb => ?_)
    · refine oS_let fun g1 e => ?_
      have f_g1 : fZ g0 g1 := by rw [e]; exact hs
      clear e
      refine oS_dl ?_
      refine oS_dl ?_
      refine oS_dl ?_
      refine oS_dl ?_
      refine oS_ite (fun hb => ?_) (fun hb => ?_)
      · exact f_g1
      · refine oS_dl ?_
        refine oS_let fun p1 e_p1 => ?_
        refine oS_let fun g2 e => ?_
        have f_g2 : fZ g0 g2 := by rw [e, e_p1]; exact fZ_tr f_g1 fn131_z
        clear e
        refine oS_dl ?_
        refine oS_ite (fun hb => ?_) (fun hb => ?_)
        · refine oS_ite (fun hb => ?_) (fun hb => ?_)
          · exact f_g2
          · refine oS_let fun p2 e_p2 => ?_
            refine oS_let fun g3 e => ?_
            have f_g3 : fZ g0 g3 := by rw [e, e_p2]; exact fZ_tr f_g2 fn234_z
            clear e
            refine oS_ite (fun hb => ?_) (fun hb => ?_)
            · refine oS_let fun p3 e_p3 => ?_
              refine oS_let fun g4 e => ?_
              have f_g4 : fZ g0 g4 := by rw [e, e_p3]; exact fZ_tr f_g3 fn239_z
              clear e
              refine oS_let fun g5 e => ?_
              have f_g5 : fZ g0 g5 := by rw [e]; exact fZ_up f_g4 (by decide)
              clear e
              refine oS_let fun p5 e_p5 => ?_
              refine oS_let fun g6 e => ?_
              have f_g6 : fZ g0 g6 := by rw [e, e_p5]; exact fZ_tr f_g5 fn213_z
              clear e
              refine oS_let fun p6 e_p6 => ?_
              refine oS_let fun g7 e => ?_
              have f_g7 : fZ g0 g7 := by rw [e, e_p6]; exact fZ_tr f_g6 fn261_z
              clear e
              refine oS_ite (fun hb => ?_) (fun hb => ?_)
              · refine oS_let fun p7 e_p7 => ?_
                refine oS_let fun g8 e => ?_
                have f_g8 : fZ g0 g8 := by rw [e, e_p7]; exact fZ_tr f_g7 fn237_z
                clear e
                refine oS_ite (fun hb => ?_) (fun hb => ?_)
                · exact f_g8
                · exact f_g8
              · refine oS_ite (fun hb => ?_) (fun hb => ?_)
                · exact f_g7
                · exact f_g7
            · exact f_g3
        · refine oS_let fun p2 e_p2 => ?_
          refine oS_let fun g3 e => ?_
          have f_g3 : fZ g0 g3 := by rw [e, e_p2]; exact fZ_tr f_g2 fn234_z
          clear e
          refine oS_ite (fun hb => ?_) (fun hb => ?_)
          · refine oS_let fun p3 e_p3 => ?_
            refine oS_let fun g4 e => ?_
            have f_g4 : fZ g0 g4 := by rw [e, e_p3]; exact fZ_tr f_g3 fn240_z
            clear e
            refine oS_let fun g5 e => ?_
            have f_g5 : fZ g0 g5 := by rw [e]; exact fZ_up f_g4 (by decide)
            clear e
            refine oS_let fun p5 e_p5 => ?_
            refine oS_let fun g6 e => ?_
            have f_g6 : fZ g0 g6 := by rw [e, e_p5]; exact fZ_tr f_g5 fn213_z
            clear e
            refine oS_let fun p6 e_p6 => ?_
            refine oS_let fun g7 e => ?_
            have f_g7 : fZ g0 g7 := by rw [e, e_p6]; exact fZ_tr f_g6 fn261_z
            clear e
            refine oS_ite (fun hb => ?_) (fun hb => ?_)
            · refine oS_let fun p7 e_p7 => ?_
              refine oS_let fun g8 e => ?_
              have f_g8 : fZ g0 g8 := by rw [e, e_p7]; exact fZ_tr f_g7 fn237_z
              clear e
              refine oS_ite (fun hb => ?_) (fun hb => ?_)
              · exact f_g8
              · exact f_g8
            · refine oS_ite (fun hb => ?_) (fun hb => ?_)
              · exact f_g7
              · exact f_g7
          · exact f_g3
    · exact f_g0
  · unfold dn263
    refine oS_dl ?_
    exact f_g0
theorem fn264_z {x : List Int} {g0 : rHp} : fZ g0 (fn264 x g0).2.2 := by
  have f_g0 : fZ g0 g0 := fZ_refl
  refine zGoo_P (I := fun s => fZ g0 s.2.2) fZ_zero (fun s hs => ?_) ?_
  · unfold en264
    refine oS_ite (fun hb => ?_) (fun hb => ?_)
    · refine oS_let fun g1 e => ?_
      have f_g1 : fZ g0 g1 := by rw [e]; exact hs
      clear e
      refine oS_dl ?_
      refine oS_dl ?_
      refine oS_dl ?_
      refine oS_dl ?_
      refine oS_ite (fun hb => ?_) (fun hb => ?_)
      · exact f_g1
      · refine oS_ite (fun hb => ?_) (fun hb => ?_)
        · exact f_g1
        · refine oS_let fun g2 e => ?_
          have f_g2 : fZ g0 g2 := by rw [e]; exact fZ_up f_g1 (by decide)
          clear e
          exact f_g2
    · refine oS_ite (fun hb => ?_) (fun hb => ?_)
      · refine oS_let fun g1 e => ?_
        have f_g1 : fZ g0 g1 := by rw [e]; exact hs
        clear e
        refine oS_dl ?_
        refine oS_dl ?_
        refine oS_dl ?_
        refine oS_dl ?_
        refine oS_dl ?_
        refine oS_dl ?_
        refine oS_ite (fun hb => ?_) (fun hb => ?_)
        · refine oS_let fun g2 e => ?_
          have f_g2 : fZ g0 g2 := by rw [e]; exact fZ_up f_g1 (by decide)
          clear e
          refine oS_ite (fun hb => ?_) (fun hb => ?_)
          · exact f_g2
          · exact f_g2
        · refine oS_dl ?_
          refine oS_let fun p1 e_p1 => ?_
          refine oS_let fun g2 e => ?_
          have f_g2 : fZ g0 g2 := by rw [e, e_p1]; exact fZ_tr f_g1 fn131_z
          clear e
          refine oS_ite (fun hb => ?_) (fun hb => ?_)
          · refine oS_dl ?_
            refine oS_ite (fun hb => ?_) (fun hb => ?_)
            · exact f_g2
            · refine oS_let fun p2 e_p2 => ?_
              refine oS_let fun g3 e => ?_
              have f_g3 : fZ g0 g3 := by rw [e, e_p2]; exact fZ_tr f_g2 fn234_z
              clear e
              refine oS_ite (fun hb => ?_) (fun hb => ?_)
              · refine oS_let fun p3 e_p3 => ?_
                refine oS_let fun g4 e => ?_
                have f_g4 : fZ g0 g4 := by rw [e, e_p3]; exact fZ_tr f_g3 fn238_z
                clear e
                refine oS_let fun p4 e_p4 => ?_
                refine oS_let fun g5 e => ?_
                have f_g5 : fZ g0 g5 := by rw [e, e_p4]; exact fZ_tr f_g4 fn261_z
                clear e
                refine oS_ite (fun hb => ?_) (fun hb => ?_)
                · exact f_g5
                · refine oS_ite (fun hb => ?_) (fun hb => ?_)
                  · exact f_g5
                  · exact f_g5
              · exact f_g3
          · refine oS_dl ?_
            refine oS_ite (fun hb => ?_) (fun hb => ?_)
            · exact f_g2
            · refine oS_dl ?_
              refine oS_ite (fun hb => ?_) (fun hb => ?_)
              · exact f_g2
              · refine oS_let fun p2 e_p2 => ?_
                refine oS_let fun g3 e => ?_
                have f_g3 : fZ g0 g3 := by rw [e, e_p2]; exact fZ_tr f_g2 fn234_z
                clear e
                refine oS_ite (fun hb => ?_) (fun hb => ?_)
                · refine oS_let fun p3 e_p3 => ?_
                  refine oS_let fun g4 e => ?_
                  have f_g4 : fZ g0 g4 := by rw [e, e_p3]; exact fZ_tr f_g3 fn238_z
                  clear e
                  refine oS_let fun p4 e_p4 => ?_
                  refine oS_let fun g5 e => ?_
                  have f_g5 : fZ g0 g5 := by rw [e, e_p4]; exact fZ_tr f_g4 fn261_z
                  clear e
                  refine oS_ite (fun hb => ?_) (fun hb => ?_)
                  · exact f_g5
                  · refine oS_ite (fun hb => ?_) (fun hb => ?_)
                    · exact f_g5
                    · exact f_g5
                · exact f_g3
      · exact f_g0
  · unfold dn264
    refine oS_dl ?_
    refine oS_dl ?_
    refine oS_let fun g1 e => ?_
    have f_g1 : fZ g0 g1 := by rw [e]; exact fZ_up f_g0 (by decide)
    clear e
    exact f_g1
noncomputable def oT (Q : zR → Prop) (I : Nat × List Int × rHp → Prop) : zSt → Prop
  | .inl s => I s
  | .inr r => Q r
theorem oT_let {Q : zR → Prop} {I : Nat × List Int × rHp → Prop} {α : Type} {x : α} {f : α → zSt} (h : ∀ y, y = x → oT Q I (f y)) : oT Q I (zLet x f) := h x rfl
theorem oT_dl {Q : zR → Prop} {I : Nat × List Int × rHp → Prop} {α : Type} {x : α} {f : α → zSt} (h : oT Q I (f x)) : oT Q I (zLet x f) := h
theorem oT_ite {Q : zR → Prop} {I : Nat × List Int × rHp → Prop} {c : Prop} [Decidable c] {a b : zSt} (h1 : c → oT Q I a) (h2 : ¬ c → oT Q I b) : oT Q I (if c then a else b) := by
  by_cases h : c
  · rw [if_pos h]; exact h1 h
  · rw [if_neg h]; exact h2 h
theorem zIt_R {Q : zR → Prop} {I : Nat × List Int × rHp → Prop} {E : (Nat × List Int × rHp) → zSt} (hE : ∀ s, I s → oT Q I (E s)) : ∀ (f : Nat) (s : Nat × List Int × rHp) (r : zR), I s → zIt E f s = some r → Q r := by
  intro f
  induction f with
  | zero => intro s r _ h; cases h
  | succ f ih =>
    intro s r hI h
    have e := hE s hI
    unfold zIt at h
    cases q : E s with
    | inl s_q =>
      rw [q] at h e
      exact ih s_q r e h
    | inr r_q =>
      rw [q] at h e
      cases h
      exact e
theorem zGoo_R {Q : zR → Prop} {I : Nat × List Int × rHp → Prop} {E : (Nat × List Int × rHp) → zSt} {d : zSt} (h0 : Q (0, 0, fun _ _ _ => 0)) (hE : ∀ s, I s → oT Q I (E s)) (hd : oT Q I d) : Q (zGoo E d) := by
  cases d with
  | inr r => exact hd
  | inl s =>
    show Q (zLoop E s)
    by_cases h : ∃ r, ∃ f, zIt E f s = some r
    · obtain ⟨r, f, h⟩ := h
      rw [zLoop_at h]
      exact zIt_R hE f s r hd h
    · have e : zLoop E s = (0, 0, fun _ _ _ => 0) := by
        unfold zLoop
        rw [dif_neg h]
      rw [e]
      exact h0
/-- where a run did not come to its end nothing is run -/
noncomputable def fZ0 (g g_q : rHp) : Prop := g_q 0 0 7 = 0 ∧ ((∃ j, g_q 40 0 j ≠ 0) → (∀ j, j ≠ 7 → g_q 0 0 j = g 0 0 j) ∧ g_q 40 = g 40)
theorem fZ0_tr {a b c : rHp} (h1 : fZ0 a b) (h2 : fZ b c) : fZ0 a c := ⟨h2.1 h1.1, fun z => by
  obtain ⟨b1, b2⟩ := h2.2 z
  obtain ⟨a1, a2⟩ := h1.2 (by rw [← b2]; exact z)
  exact ⟨fun j w => by rw [b1]; exact a1 j w, b2.trans a2⟩⟩
theorem run_z {x : List Int} {g0 : rHp} : (fn265 x g0).1 ≠ 0 → fZ0 g0 (fn265 x g0).2.2 := by
  refine zGoo_R (Q := fun r => r.1 ≠ 0 → fZ0 g0 r.2.2) (I := fun s => fZ0 g0 s.2.2) (fun z => absurd rfl z) (fun s hs => ?_) ?_
  · unfold en265
    refine oT_ite (fun hb => ?_) (fun hb => ?_)
    · refine oT_let fun g1 e => ?_
      have f1 : fZ0 g0 g1 := by rw [e]; exact hs
      clear e
      refine oT_dl ?_
      refine oT_dl ?_
      refine oT_dl ?_
      refine oT_dl ?_
      refine oT_dl ?_
      refine oT_ite (fun hb => ?_) (fun hb => ?_)
      · exact fun z => absurd rfl z
      · refine oT_let fun p1 e1 => ?_
        refine oT_let fun g2 e => ?_
        have f2 : fZ0 g0 g2 := by rw [e, e1]; exact fZ0_tr f1 fn235_z
        clear e
        refine oT_ite (fun hb => ?_) (fun hb => ?_)
        · refine oT_let fun p2 e2 => ?_
          refine oT_let fun g3 e => ?_
          have f3 : fZ0 g0 g3 := by rw [e, e2]; exact fZ0_tr f2 fn263_z
          clear e
          refine oT_ite (fun hb => ?_) (fun hb => ?_)
          · refine oT_let fun p3 e3 => ?_
            refine oT_let fun g4 e => ?_
            have f4 : fZ0 g0 g4 := by rw [e, e3]; exact fZ0_tr f3 fn264_z
            clear e
            refine oT_ite (fun hb => ?_) (fun hb => ?_)
            · exact f4
            · refine oT_ite (fun hb => ?_) (fun hb => ?_)
              · exact fun _ => f4
              · exact fun _ => f4
          · refine oT_ite (fun hb => ?_) (fun hb => ?_)
            · exact fun _ => f3
            · exact fun _ => f3
        · exact fun _ => f2
    · exact fun z => absurd rfl z
  · unfold dn265
    refine oT_let fun p0 e0 => ?_
    refine oT_let fun g1 e => ?_
    have f1 : fZ0 g0 g1 := by
      rw [e, e0]
      obtain ⟨k1, k2, _⟩ := fn163_8 g0
      exact ⟨k2, fun _ => ⟨k1, (fn163_fr g0).1 40 (by decide) (by decide)⟩⟩
    clear e
    refine oT_let fun p1 e1 => ?_
    refine oT_let fun g2 e => ?_
    have f2 : fZ0 g0 g2 := by rw [e, e1]; exact fZ0_tr f1 fn223_z
    clear e
    refine oT_ite (fun hb => ?_) (fun hb => ?_)
    · refine oT_let fun p2 e2 => ?_
      refine oT_let fun g3 e => ?_
      have f3 : fZ0 g0 g3 := by rw [e, e2]; exact fZ0_tr f2 fn236_z
      exact f3
    · exact fun _ => f2
