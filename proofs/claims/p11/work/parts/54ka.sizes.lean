/-! ===== the sizes of PREDICATES stay ===== -/
variable {N : Int}
noncomputable def fS (N : Int) (g g_q : rHp) : Prop := (∃ j, g_q 40 0 j ≠ 0) → g_q 40 = g 40 ∧ g_q 1 0 11 = g 1 0 11 ∧ (N ≤ g 1 0 7 → N ≤ g_q 1 0 7 ∧ ∀ p, p < N → g_q 17 0 p = g 17 0 p)
theorem fS_refl {g : rHp} : fS N g g := fun _ => ⟨rfl, rfl, fun h => ⟨h, fun _ _ => rfl⟩⟩
theorem fS_zero {g : rHp} : fS N g (fun _ _ _ => 0) := fun ⟨_, h⟩ => absurd rfl h
theorem fS_tr {a b c : rHp} (h1 : fS N a b) (h2 : fS N b c) : fS N a c := fun z => by
  obtain ⟨b0, b1, b2⟩ := h2 z
  obtain ⟨a0, a1, a2⟩ := h1 (by rw [← b0]; exact z)
  refine ⟨b0.trans a0, b1.trans a1, fun w => ?_⟩
  obtain ⟨a3, a4⟩ := a2 w
  obtain ⟨b3, b4⟩ := b2 a3
  exact ⟨b3, fun p hp => (b4 p hp).trans (a4 p hp)⟩
theorem fS_up {a b : rHp} {K : Nat} {o j v : Int} (h : fS N a b) (hK : K ≠ 1 ∧ K ≠ 17 ∧ K ≠ 40) : fS N a (rUp b K o j v) := by
  unfold fS
  rw [rUp_grp (Ne.symm hK.1), rUp_grp (Ne.symm hK.2.1), rUp_grp (Ne.symm hK.2.2)]
  exact h
theorem fS_cp {a b : rHp} {K K2 : Nat} {o j o2 j2 n : Int} (h : fS N a b) (hK : K2 ≠ 1 ∧ K2 ≠ 17 ∧ K2 ≠ 40) : fS N a (zCpy b K o j K2 o2 j2 n) := by
  unfold fS
  rw [zCpy_grp (Ne.symm hK.1), zCpy_grp (Ne.symm hK.2.1), zCpy_grp (Ne.symm hK.2.2)]
  exact h
theorem fS_u1 {a b : rHp} {j v : Int} (h : fS N a b) (hj : j ≠ 7 ∧ j ≠ 11) : fS N a (rUp b 1 0 j v) := by
  unfold fS
  rw [rUp_grp (show (17 : Nat) ≠ 1 by decide), rUp_grp (show (40 : Nat) ≠ 1 by decide), rUp_ne (fun w => hj.1 w.2.2.symm), rUp_ne (fun w => hj.2 w.2.2.symm)]
  exact h
theorem fn126_sz {x : List Int} {g0 : rHp} : fS N g0 (fn126 x g0).2.2 := by
  intro _
  unfold fn126
  simp only [zLet]
  split
  · dsimp only
    refine ⟨by rw [rUp_grp (by decide), rUp_grp (by decide), rUp_grp (by decide)], by rw [rUp_ne (by decide), rUp_grp (by decide), rUp_grp (by decide)], fun w => ⟨by rw [rUp_at]; omega, fun p hp => ?_⟩⟩
    rw [rUp_grp (by decide), rUp_ne (fun z => by have := z.2.2; omega), rUp_grp (by decide)]
  · exact ⟨rfl, rfl, fun h => ⟨h, fun _ _ => rfl⟩⟩
noncomputable def fT2 (N : Int) (g g_q : rHp) : Prop := (∃ j, g_q 40 0 j ≠ 0) → g_q 40 = g 40 ∧ (N ≤ g 1 0 7 → N ≤ g_q 1 0 11 ∧ N ≤ g_q 1 0 7 ∧ ∀ p, p < N → g_q 17 0 p = g 17 0 p)
noncomputable def fT3 (N : Int) (g g_q : rHp) : Prop := (∃ j, g_q 40 0 j ≠ 0) → g_q 40 = g 40 ∧ (N ≤ g 1 0 7 → ∀ p, p < N → g_q 17 0 p = g 17 0 p)
theorem fT3_refl {g : rHp} : fT3 N g g := fun _ => ⟨rfl, fun _ _ _ => rfl⟩
theorem fT3_zero {g : rHp} : fT3 N g (fun _ _ _ => 0) := fun ⟨_, h⟩ => absurd rfl h
theorem fT3_of {g g_q : rHp} (h : fT2 N g g_q) : fT3 N g g_q := fun z => ⟨(h z).1, fun w => ((h z).2 w).2.2⟩
theorem fT3_S {g g_q : rHp} (h : fS N g g_q) : fT3 N g g_q := fun z => ⟨(h z).1, fun w => ((h z).2.2 w).2⟩
theorem fT2_tr {a b c : rHp} (h1 : fT2 N a b) (h2 : fS N b c) : fT2 N a c := fun z => by
  obtain ⟨b0, b1, b2⟩ := h2 z
  obtain ⟨a0, a2⟩ := h1 (by rw [← b0]; exact z)
  refine ⟨b0.trans a0, fun w => ?_⟩
  obtain ⟨a3, a4, a5⟩ := a2 w
  obtain ⟨b3, b4⟩ := b2 a4
  exact ⟨by rw [b1]; exact a3, b3, fun p hp => (b4 p hp).trans (a5 p hp)⟩
theorem fT2_mark {x : List Int} {g : rHp} : fT2 N g (fn123 x g).2.2 := by
  intro _
  show rUp (rUp (rUp g 1 0 11 (g 1 0 7)) 1 0 12 (g 1 0 9)) 1 0 13 (g 1 0 10) 40 = g 40 ∧ (N ≤ g 1 0 7 → N ≤ rUp (rUp (rUp g 1 0 11 (g 1 0 7)) 1 0 12 (g 1 0 9)) 1 0 13 (g 1 0 10) 1 0 11 ∧ N ≤ rUp (rUp (rUp g 1 0 11 (g 1 0 7)) 1 0 12 (g 1 0 9)) 1 0 13 (g 1 0 10) 1 0 7 ∧ ∀ p, p < N → rUp (rUp (rUp g 1 0 11 (g 1 0 7)) 1 0 12 (g 1 0 9)) 1 0 13 (g 1 0 10) 17 0 p = g 17 0 p)
  refine ⟨by rw [rUp_grp (by decide), rUp_grp (by decide), rUp_grp (by decide)], fun w => ⟨?_, ?_, fun p _ => by rw [rUp_grp (by decide), rUp_grp (by decide), rUp_grp (by decide)]⟩⟩
  · rw [rUp_ne (by decide), rUp_ne (by decide), rUp_at]; exact w
  · rw [rUp_ne (by decide), rUp_ne (by decide), rUp_ne (by decide)]; exact w
theorem fT2_back {x : List Int} {a b : rHp} (h : fT2 N a b) : fT2 N a (fn161 x b).2.2 := by
  have e40 : (fn161 x b).2.2 40 = b 40 := by
    show rUp (rUp (rUp b 1 0 7 (b 1 0 11)) 1 0 9 (b 1 0 12)) 1 0 10 (b 1 0 13) 40 = b 40
    rw [rUp_grp (by decide), rUp_grp (by decide), rUp_grp (by decide)]
  have e17 : (fn161 x b).2.2 17 = b 17 := by
    show rUp (rUp (rUp b 1 0 7 (b 1 0 11)) 1 0 9 (b 1 0 12)) 1 0 10 (b 1 0 13) 17 = b 17
    rw [rUp_grp (by decide), rUp_grp (by decide), rUp_grp (by decide)]
  have e7 : (fn161 x b).2.2 1 0 7 = b 1 0 11 := by
    show rUp (rUp (rUp b 1 0 7 (b 1 0 11)) 1 0 9 (b 1 0 12)) 1 0 10 (b 1 0 13) 1 0 7 = b 1 0 11
    rw [rUp_ne (by decide), rUp_ne (by decide), rUp_at]
  have e11 : (fn161 x b).2.2 1 0 11 = b 1 0 11 := by
    show rUp (rUp (rUp b 1 0 7 (b 1 0 11)) 1 0 9 (b 1 0 12)) 1 0 10 (b 1 0 13) 1 0 11 = b 1 0 11
    rw [rUp_ne (by decide), rUp_ne (by decide), rUp_ne (by decide)]
  intro z
  rw [e40] at z
  obtain ⟨a0, a2⟩ := h z
  refine ⟨e40.trans a0, fun w => ?_⟩
  obtain ⟨a3, a4, a5⟩ := a2 w
  exact ⟨by rw [e11]; exact a3, by rw [e7]; exact a3, fun p hp => by rw [e17]; exact a5 p hp⟩
theorem fn92_sz {x : List Int} {g0 : rHp} : fS N g0 (fn92 x g0).2.2 := by
  have f_g0 : fS N g0 g0 := fS_refl
  refine zGoo_P (I := fun s => fS N g0 s.2.2) fS_zero (fun s hs => ?_) ?_
  · unfold en92
    refine oS_ite (fun hb => ?_) (fun hb => ?_)
    · refine oS_let fun g1 e => ?_
      have f_g1 : fS N g0 g1 := by rw [e]; exact hs
      clear e
      refine oS_dl ?_
      refine oS_dl ?_
      refine oS_dl ?_
      refine oS_ite (fun hb => ?_) (fun hb => ?_)
      · refine oS_ite (fun hb => ?_) (fun hb => ?_)
        · refine oS_let fun g2 e => ?_
          have f_g2 : fS N g0 g2 := by rw [e]; exact fS_up f_g1 (by decide)
          clear e
          refine oS_let fun g3 e => ?_
          have f_g3 : fS N g0 g3 := by rw [e]; exact fS_up f_g2 (by decide)
          clear e
          exact f_g3
        · exact f_g1
      · refine oS_dl ?_
        refine oS_ite (fun hb => ?_) (fun hb => ?_)
        · exact f_g1
        · exact f_g1
    · exact f_g0
  · unfold dn92
    refine oS_dl ?_
    exact f_g0
theorem fn99_sz {x : List Int} {g0 : rHp} : fS N g0 (fn99 x g0).2.2 := by
  have f_g0 : fS N g0 g0 := fS_refl
  refine zGoo_P (I := fun s => fS N g0 s.2.2) fS_zero (fun s hs => ?_) ?_
  · unfold en99
    refine oS_ite (fun hb => ?_) (fun hb => ?_)
    · refine oS_let fun g1 e => ?_
      have f_g1 : fS N g0 g1 := by rw [e]; exact hs
      clear e
      refine oS_dl ?_
      refine oS_dl ?_
      refine oS_dl ?_
      refine oS_ite (fun hb => ?_) (fun hb => ?_)
      · exact f_g1
      · refine oS_let fun g2 e => ?_
        have f_g2 : fS N g0 g2 := by rw [e]; exact fS_up f_g1 (by decide)
        clear e
        exact f_g2
    · exact f_g0
  · unfold dn99
    refine oS_dl ?_
    refine oS_dl ?_
    exact f_g0
theorem fn104_sz {x : List Int} {g0 : rHp} : fS N g0 (fn104 x g0).2.2 := by
  have f_g0 : fS N g0 g0 := fS_refl
  show oP (fun h => fS N g0 h) (fn104 x g0)
  unfold fn104
  refine oP_dl ?_
  refine oP_dl ?_
  refine oP_dl ?_
  refine oP_dl ?_
  refine oP_dl ?_
  refine oP_dl ?_
  refine oP_ite (fun hb => ?_) (fun hb => ?_)
  · exact f_g0
  · refine oP_let fun g1 e => ?_
    have f_g1 : fS N g0 g1 := by rw [e]; exact fS_up f_g0 (by decide)
    clear e
    refine oP_let fun g2 e => ?_
    have f_g2 : fS N g0 g2 := by rw [e]; exact fS_up f_g1 (by decide)
    clear e
    refine oP_let fun g3 e => ?_
    have f_g3 : fS N g0 g3 := by rw [e]; exact fS_up f_g2 (by decide)
    clear e
    refine oP_let fun g4 e => ?_
    have f_g4 : fS N g0 g4 := by rw [e]; exact fS_up f_g3 (by decide)
    clear e
    refine oP_let fun g5 e => ?_
    have f_g5 : fS N g0 g5 := by rw [e]; exact fS_up f_g4 (by decide)
    clear e
    exact f_g5
theorem fn105_sz {x : List Int} {g0 : rHp} : fS N g0 (fn105 x g0).2.2 := by
  have f_g0 : fS N g0 g0 := fS_refl
  show oP (fun h => fS N g0 h) (fn105 x g0)
  unfold fn105
  refine oP_dl ?_
  refine oP_ite (fun hb => ?_) (fun hb => ?_)
  · exact f_g0
  · refine oP_ite (fun hb => ?_) (fun hb => ?_)
    · exact f_g0
    · exact f_g0
theorem fn106_sz {x : List Int} {g0 : rHp} : fS N g0 (fn106 x g0).2.2 := by
  have f_g0 : fS N g0 g0 := fS_refl
  show oP (fun h => fS N g0 h) (fn106 x g0)
  unfold fn106
  refine oP_dl ?_
  refine oP_ite (fun hb => ?_) (fun hb => ?_)
  · exact f_g0
  · refine oP_ite (fun hb => ?_) (fun hb => ?_)
    · exact f_g0
    · exact f_g0
theorem fn107_sz {x : List Int} {g0 : rHp} : fS N g0 (fn107 x g0).2.2 := by
  have f_g0 : fS N g0 g0 := fS_refl
  show oP (fun h => fS N g0 h) (fn107 x g0)
  unfold fn107
  refine oP_dl ?_
  refine oP_ite (fun hb => ?_) (fun hb => ?_)
  · exact f_g0
  · refine oP_ite (fun hb => ?_) (fun hb => ?_)
    · exact f_g0
    · exact f_g0
theorem fn108_sz {x : List Int} {g0 : rHp} : fS N g0 (fn108 x g0).2.2 := by
  have f_g0 : fS N g0 g0 := fS_refl
  show oP (fun h => fS N g0 h) (fn108 x g0)
  unfold fn108
  refine oP_dl ?_
  refine oP_ite (fun hb => ?_) (fun hb => ?_)
  · refine oP_ite (fun hb => ?_) (fun hb => ?_)
    · exact f_g0
    · refine oP_ite (fun hb => ?_) (fun hb => ?_)
      · refine oP_ite (fun hb => ?_) (fun hb => ?_)
        · exact f_g0
        · exact f_g0
      · exact f_g0
  · refine oP_ite (fun hb => ?_) (fun hb => ?_)
    · exact f_g0
    · exact f_g0
theorem fn109_sz {x : List Int} {g0 : rHp} : fS N g0 (fn109 x g0).2.2 := by
  have f_g0 : fS N g0 g0 := fS_refl
  show oP (fun h => fS N g0 h) (fn109 x g0)
  unfold fn109
  refine oP_dl ?_
  refine oP_let fun g1 e => ?_
  have f_g1 : fS N g0 g1 := by rw [e]; exact fS_up f_g0 (by decide)
  clear e
  exact f_g1
theorem fn110_sz {x : List Int} {g0 : rHp} : fS N g0 (fn110 x g0).2.2 := by
  have f_g0 : fS N g0 g0 := fS_refl
  show oP (fun h => fS N g0 h) (fn110 x g0)
  unfold fn110
  refine oP_let fun g1 e => ?_
  have f_g1 : fS N g0 g1 := by rw [e]; exact fS_up f_g0 (by decide)
  clear e
  refine oP_let fun g2 e => ?_
  have f_g2 : fS N g0 g2 := by rw [e]; exact fS_up f_g1 (by decide)
  clear e
  refine oP_let fun g3 e => ?_
  have f_g3 : fS N g0 g3 := by rw [e]; exact fS_up f_g2 (by decide)
  clear e
  exact f_g3
theorem fn112_sz {x : List Int} {g0 : rHp} : fS N g0 (fn112 x g0).2.2 := by
  have f_g0 : fS N g0 g0 := fS_refl
  show oP (fun h => fS N g0 h) (fn112 x g0)
  unfold fn112
  refine oP_let fun g1 e => ?_
  have f_g1 : fS N g0 g1 := by rw [e]; exact fS_up f_g0 (by decide)
  clear e
  exact f_g1
theorem fn114_sz {x : List Int} {g0 : rHp} : fS N g0 (fn114 x g0).2.2 := by
  have f_g0 : fS N g0 g0 := fS_refl
  refine zGoo_P (I := fun s => fS N g0 s.2.2) fS_zero (fun s hs => ?_) ?_
  · unfold en114
    refine oS_ite (fun hb => ?_) (fun hb => ?_)
    · refine oS_let fun g1 e => ?_
      have f_g1 : fS N g0 g1 := by rw [e]; exact hs
      clear e
      refine oS_dl ?_
      refine oS_dl ?_
      refine oS_ite (fun hb => ?_) (fun hb => ?_)
      · exact f_g1
      · refine oS_dl ?_
        refine oS_ite (fun hb => ?_) (fun hb => ?_)
        · refine oS_let fun g2 e => ?_
          have f_g2 : fS N g0 g2 := by rw [e]; exact fS_up f_g1 (by decide)
          clear e
          exact f_g2
        · refine oS_ite (fun hb => ?_) (fun hb => ?_)
          · refine oS_dl ?_
            exact f_g1
          · refine oS_let fun g2 e => ?_
            have f_g2 : fS N g0 g2 := by rw [e]; exact fS_up f_g1 (by decide)
            clear e
            exact f_g2
    · exact f_g0
  · unfold dn114
    refine oS_dl ?_
    refine oS_dl ?_
    refine oS_ite (fun hb => ?_) (fun hb => ?_)
    · exact f_g0
    · refine oS_dl ?_
      refine oS_ite (fun hb => ?_) (fun hb => ?_)
      · refine oS_let fun g1 e => ?_
        have f_g1 : fS N g0 g1 := by rw [e]; exact fS_up f_g0 (by decide)
        clear e
        exact f_g1
      · refine oS_ite (fun hb => ?_) (fun hb => ?_)
        · refine oS_dl ?_
          exact f_g0
        · refine oS_let fun g1 e => ?_
          have f_g1 : fS N g0 g1 := by rw [e]; exact fS_up f_g0 (by decide)
          clear e
          exact f_g1
theorem fn117_sz {x : List Int} {g0 : rHp} : fS N g0 (fn117 x g0).2.2 := by
  have f_g0 : fS N g0 g0 := fS_refl
  show oP (fun h => fS N g0 h) (fn117 x g0)
  unfold fn117
  refine oP_dl ?_
  refine oP_dl ?_
  refine oP_dl ?_
  refine oP_dl ?_
  refine oP_ite (fun hb => ?_) (fun hb => ?_)
  · exact f_g0
  · exact f_g0
theorem fn118_sz {x : List Int} {g0 : rHp} : fS N g0 (fn118 x g0).2.2 := by
  have f_g0 : fS N g0 g0 := fS_refl
  show oP (fun h => fS N g0 h) (fn118 x g0)
  unfold fn118
  refine oP_dl ?_
  refine oP_dl ?_
  refine oP_dl ?_
  refine oP_dl ?_
  refine oP_ite (fun hb => ?_) (fun hb => ?_)
  · exact f_g0
  · exact f_g0
theorem fn119_sz {x : List Int} {g0 : rHp} : fS N g0 (fn119 x g0).2.2 := by
  have f_g0 : fS N g0 g0 := fS_refl
  refine zGoo_P (I := fun s => fS N g0 s.2.2) fS_zero (fun s hs => ?_) ?_
  · unfold en119
    refine oS_ite (fun hb => ?_) (fun hb => ?_)
    · refine oS_let fun g1 e => ?_
      have f_g1 : fS N g0 g1 := by rw [e]; exact hs
      clear e
      refine oS_dl ?_
      refine oS_dl ?_
      refine oS_dl ?_
      refine oS_ite (fun hb => ?_) (fun hb => ?_)
      · exact f_g1
      · refine oS_dl ?_
        refine oS_ite (fun hb => ?_) (fun hb => ?_)
        · exact f_g1
        · exact f_g1
    · exact f_g0
  · unfold dn119
    refine oS_dl ?_
    exact f_g0
theorem fn121_sz {x : List Int} {g0 : rHp} : fS N g0 (fn121 x g0).2.2 := by
  have f_g0 : fS N g0 g0 := fS_refl
  show oP (fun h => fS N g0 h) (fn121 x g0)
  unfold fn121
  refine oP_dl ?_
  refine oP_dl ?_
  refine oP_dl ?_
  refine oP_ite (fun hb => ?_) (fun hb => ?_)
  · exact f_g0
  · refine oP_let fun g1 e => ?_
    have f_g1 : fS N g0 g1 := by rw [e]; exact fS_up f_g0 (by decide)
    clear e
    refine oP_let fun g2 e => ?_
    have f_g2 : fS N g0 g2 := by rw [e]; exact fS_up f_g1 (by decide)
    clear e
    refine oP_let fun g3 e => ?_
    have f_g3 : fS N g0 g3 := by rw [e]; exact fS_up f_g2 (by decide)
    clear e
    exact f_g3
theorem fn122_sz {x : List Int} {g0 : rHp} : fS N g0 (fn122 x g0).2.2 := by
  have f_g0 : fS N g0 g0 := fS_refl
  show oP (fun h => fS N g0 h) (fn122 x g0)
  unfold fn122
  refine oP_dl ?_
  refine oP_ite (fun hb => ?_) (fun hb => ?_)
  · refine oP_ite (fun hb => ?_) (fun hb => ?_)
    · refine oP_ite (fun hb => ?_) (fun hb => ?_)
      · refine oP_ite (fun hb => ?_) (fun hb => ?_)
        · exact f_g0
        · exact f_g0
      · exact f_g0
    · exact f_g0
  · exact f_g0
theorem fn124_sz {x : List Int} {g0 : rHp} : fS N g0 (fn124 x g0).2.2 := by
  have f_g0 : fS N g0 g0 := fS_refl
  show oP (fun h => fS N g0 h) (fn124 x g0)
  unfold fn124
  refine oP_dl ?_
  refine oP_dl ?_
  refine oP_dl ?_
  refine oP_dl ?_
  refine oP_ite (fun hb => ?_) (fun hb => ?_)
  · exact f_g0
  · refine oP_ite (fun hb => ?_) (fun hb => ?_)
    · exact f_g0
    · exact f_g0
theorem fn125_sz {x : List Int} {g0 : rHp} : fS N g0 (fn125 x g0).2.2 := by
  have f_g0 : fS N g0 g0 := fS_refl
  refine zGoo_P (I := fun s => fS N g0 s.2.2) fS_zero (fun s hs => ?_) ?_
  · unfold en125
    refine oS_ite (fun hb => ?_) (fun hb => ?_)
    · refine oS_let fun g1 e => ?_
      have f_g1 : fS N g0 g1 := by rw [e]; exact hs
      clear e
      refine oS_dl ?_
      refine oS_dl ?_
      refine oS_dl ?_
      refine oS_dl ?_
      refine oS_ite (fun hb => ?_) (fun hb => ?_)
      · exact f_g1
      · refine oS_dl ?_
        refine oS_ite (fun hb => ?_) (fun hb => ?_)
        · exact f_g1
        · refine oS_dl ?_
          refine oS_ite (fun hb => ?_) (fun hb => ?_)
          · exact f_g1
          · exact f_g1
    · exact f_g0
  · unfold dn125
    refine oS_dl ?_
    refine oS_dl ?_
    exact f_g0
theorem fn127_sz {x : List Int} {g0 : rHp} : fS N g0 (fn127 x g0).2.2 := by
  have f_g0 : fS N g0 g0 := fS_refl
  refine zGoo_P (I := fun s => fS N g0 s.2.2) fS_zero (fun s hs => ?_) ?_
  · unfold en127
    refine oS_ite (fun hb => ?_) (fun hb => ?_)
    · refine oS_let fun g1 e => ?_
      have f_g1 : fS N g0 g1 := by rw [e]; exact hs
      clear e
      refine oS_dl ?_
      refine oS_dl ?_
      refine oS_dl ?_
      refine oS_ite (fun hb => ?_) (fun hb => ?_)
      · exact f_g1
      · refine oS_dl ?_
        refine oS_dl ?_
        refine oS_ite (fun hb => ?_) (fun hb => ?_)
        · exact f_g1
        · exact f_g1
    · exact f_g0
  · unfold dn127
    refine oS_dl ?_
    refine oS_dl ?_
    exact f_g0
theorem fn129_sz {x : List Int} {g0 : rHp} : fS N g0 (fn129 x g0).2.2 := by
  have f_g0 : fS N g0 g0 := fS_refl
  show oP (fun h => fS N g0 h) (fn129 x g0)
  unfold fn129
  refine oP_dl ?_
  refine oP_dl ?_
  refine oP_dl ?_
  refine oP_ite (fun hb => ?_) (fun hb => ?_)
  · refine oP_let fun g1 e => ?_
    have f_g1 : fS N g0 g1 := by rw [e]; exact fS_up f_g0 (by decide)
    clear e
    refine oP_let fun g2 e => ?_
    have f_g2 : fS N g0 g2 := by rw [e]; exact fS_cp f_g1 (by decide)
    clear e
    refine oP_let fun g3 e => ?_
    have f_g3 : fS N g0 g3 := by rw [e]; exact fS_u1 f_g2 (by decide)
    clear e
    exact f_g3
  · exact f_g0
theorem fn130_sz {x : List Int} {g0 : rHp} : fS N g0 (fn130 x g0).2.2 := by
  have f_g0 : fS N g0 g0 := fS_refl
  show oP (fun h => fS N g0 h) (fn130 x g0)
  unfold fn130
  refine oP_dl ?_
  refine oP_dl ?_
  refine oP_ite (fun hb => ?_) (fun hb => ?_)
  · refine oP_let fun g1 e => ?_
    have f_g1 : fS N g0 g1 := by rw [e]; exact fS_cp f_g0 (by decide)
    clear e
    refine oP_let fun g2 e => ?_
    have f_g2 : fS N g0 g2 := by rw [e]; exact fS_cp f_g1 (by decide)
    clear e
    refine oP_let fun g3 e => ?_
    have f_g3 : fS N g0 g3 := by rw [e]; exact fS_u1 f_g2 (by decide)
    clear e
    exact f_g3
  · exact f_g0
theorem fn131_sz {x : List Int} {g0 : rHp} : fS N g0 (fn131 x g0).2.2 := by
  have f_g0 : fS N g0 g0 := fS_refl
  show oP (fun h => fS N g0 h) (fn131 x g0)
  unfold fn131
  refine oP_dl ?_
  refine oP_dl ?_
  exact f_g0
theorem fn132_sz {x : List Int} {g0 : rHp} : fS N g0 (fn132 x g0).2.2 := by
  have f_g0 : fS N g0 g0 := fS_refl
  show oP (fun h => fS N g0 h) (fn132 x g0)
  unfold fn132
  refine oP_dl ?_
  refine oP_dl ?_
  exact f_g0
theorem fn143_sz {x : List Int} {g0 : rHp} : fS N g0 (fn143 x g0).2.2 := by
  have f_g0 : fS N g0 g0 := fS_refl
  show oP (fun h => fS N g0 h) (fn143 x g0)
  unfold fn143
  refine oP_dl ?_
  refine oP_dl ?_
  refine oP_dl ?_
  refine oP_dl ?_
  refine oP_ite (fun hb => ?_) (fun hb => ?_)
  · refine oP_ite (fun hb => ?_) (fun hb => ?_)
    · exact f_g0
    · exact f_g0
  · refine oP_dl ?_
    refine oP_dl ?_
    refine oP_dl ?_
    refine oP_ite (fun hb => ?_) (fun hb => ?_)
    · exact f_g0
    · exact f_g0
theorem fn160_sz {x : List Int} {g0 : rHp} : fS N g0 (fn160 x g0).2.2 := by
  have f_g0 : fS N g0 g0 := fS_refl
  show oP (fun h => fS N g0 h) (fn160 x g0)
  unfold fn160
  refine oP_dl ?_
  refine oP_ite (fun hb => ?_) (fun hb => ?_)
  · refine oP_let fun g1 e => ?_
    have f_g1 : fS N g0 g1 := by rw [e]; exact fS_u1 f_g0 (by decide)
    clear e
    exact f_g1
  · exact f_g0
theorem fn162_sz {x : List Int} {g0 : rHp} : fS N g0 (fn162 x g0).2.2 := by
  have f_g0 : fS N g0 g0 := fS_refl
  show oP (fun h => fS N g0 h) (fn162 x g0)
  unfold fn162
  refine oP_dl ?_
  refine oP_let fun g1 e => ?_
  have f_g1 : fS N g0 g1 := by rw [e]; exact fS_up f_g0 (by decide)
  clear e
  refine oP_let fun g2 e => ?_
  have f_g2 : fS N g0 g2 := by rw [e]; exact fS_up f_g1 (by decide)
  clear e
  exact f_g2
theorem fn102_sz {x : List Int} {g0 : rHp} : fS N g0 (fn102 x g0).2.2 := by
  have f_g0 : fS N g0 g0 := fS_refl
  show oP (fun h => fS N g0 h) (fn102 x g0)
  unfold fn102
  refine oP_dl ?_
  refine oP_dl ?_
  refine oP_dl ?_
  refine oP_dl ?_
  refine oP_let fun g1 e => ?_
  have f_g1 : fS N g0 g1 := by rw [e]; exact fS_up f_g0 (by decide)
  clear e
  refine oP_let fun g2 e => ?_
  have f_g2 : fS N g0 g2 := by rw [e]; exact fS_up f_g1 (by decide)
  clear e
  refine oP_let fun g3 e => ?_
  have f_g3 : fS N g0 g3 := by rw [e]; exact fS_up f_g2 (by decide)
  clear e
  refine oP_let fun g4 e => ?_
  have f_g4 : fS N g0 g4 := by rw [e]; exact fS_up f_g3 (by decide)
  clear e
  refine oP_let fun g5 e => ?_
  have f_g5 : fS N g0 g5 := by rw [e]; exact fS_up f_g4 (by decide)
  clear e
  refine oP_let fun g6 e => ?_
  have f_g6 : fS N g0 g6 := by rw [e]; exact fS_up f_g5 (by decide)
  clear e
  refine oP_let fun g7 e => ?_
  have f_g7 : fS N g0 g7 := by rw [e]; exact fS_up f_g6 (by decide)
  clear e
  refine oP_let fun p7 e_p7 => ?_
  refine oP_let fun g8 e => ?_
  have f_g8 : fS N g0 g8 := by rw [e, e_p7]; exact fS_tr f_g7 fn99_sz
  clear e
  exact f_g8
theorem fn103_sz {x : List Int} {g0 : rHp} : fS N g0 (fn103 x g0).2.2 := by
  have f_g0 : fS N g0 g0 := fS_refl
  show oP (fun h => fS N g0 h) (fn103 x g0)
  unfold fn103
  refine oP_dl ?_
  refine oP_dl ?_
  refine oP_dl ?_
  refine oP_dl ?_
  refine oP_dl ?_
  refine oP_dl ?_
  refine oP_let fun g1 e => ?_
  have f_g1 : fS N g0 g1 := by rw [e]; exact fS_up f_g0 (by decide)
  clear e
  refine oP_let fun g2 e => ?_
  have f_g2 : fS N g0 g2 := by rw [e]; exact fS_up f_g1 (by decide)
  clear e
  refine oP_let fun g3 e => ?_
  have f_g3 : fS N g0 g3 := by rw [e]; exact fS_up f_g2 (by decide)
  clear e
  refine oP_let fun g4 e => ?_
  have f_g4 : fS N g0 g4 := by rw [e]; exact fS_up f_g3 (by decide)
  clear e
  refine oP_let fun g5 e => ?_
  have f_g5 : fS N g0 g5 := by rw [e]; exact fS_up f_g4 (by decide)
  clear e
  refine oP_let fun g6 e => ?_
  have f_g6 : fS N g0 g6 := by rw [e]; exact fS_up f_g5 (by decide)
  clear e
  refine oP_let fun g7 e => ?_
  have f_g7 : fS N g0 g7 := by rw [e]; exact fS_up f_g6 (by decide)
  clear e
  refine oP_let fun p7 e_p7 => ?_
  refine oP_let fun g8 e => ?_
  have f_g8 : fS N g0 g8 := by rw [e, e_p7]; exact fS_tr f_g7 fn99_sz
  clear e
  exact f_g8
theorem fn115_sz {x : List Int} {g0 : rHp} : fS N g0 (fn115 x g0).2.2 := by
  have f_g0 : fS N g0 g0 := fS_refl
  refine zGoo_P (I := fun s => fS N g0 s.2.2) fS_zero (fun s hs => ?_) ?_
  · unfold en115
    refine oS_ite (fun hb => ?_) (fun hb => ?_)
    · refine oS_let fun g1 e => ?_
      have f_g1 : fS N g0 g1 := by rw [e]; exact hs
      clear e
      refine oS_dl ?_
      refine oS_dl ?_
      refine oS_dl ?_
      refine oS_dl ?_
      refine oS_ite (fun hb => ?_) (fun hb => ?_)
      · refine oS_ite (fun hb => ?_) (fun hb => ?_)
        · exact f_g1
        · refine oS_let fun p1 e_p1 => ?_
          refine oS_let fun g2 e => ?_
          have f_g2 : fS N g0 g2 := by rw [e, e_p1]; exact fS_tr f_g1 fn109_sz
          clear e
          exact f_g2
      · refine oS_ite (fun hb => ?_) (fun hb => ?_)
        · refine oS_ite (fun hb => ?_) (fun hb => ?_)
          · exact f_g1
          · refine oS_let fun p1 e_p1 => ?_
            refine oS_let fun g2 e => ?_
            have f_g2 : fS N g0 g2 := by rw [e, e_p1]; exact fS_tr f_g1 fn109_sz
            clear e
            exact f_g2
        · refine oS_dl ?_
          refine oS_dl ?_
          refine oS_dl ?_
          refine oS_let fun g2 e => ?_
          have f_g2 : fS N g0 g2 := by rw [e]; exact fS_up f_g1 (by decide)
          clear e
          refine oS_let fun g3 e => ?_
          have f_g3 : fS N g0 g3 := by rw [e]; exact fS_up f_g2 (by decide)
          clear e
          refine oS_ite (fun hb => ?_) (fun hb => ?_)
          · exact f_g3
          · refine oS_dl ?_
            refine oS_let fun p3 e_p3 => ?_
            refine oS_let fun g4 e => ?_
            have f_g4 : fS N g0 g4 := by rw [e, e_p3]; exact fS_tr f_g3 fn108_sz
            clear e
            refine oS_dl ?_
            exact f_g4
    · exact f_g0
  · unfold dn115
    refine oS_dl ?_
    refine oS_dl ?_
    refine oS_let fun g1 e => ?_
    have f_g1 : fS N g0 g1 := by rw [e]; exact fS_up f_g0 (by decide)
    clear e
    refine oS_dl ?_
    refine oS_dl ?_
    refine oS_let fun g2 e => ?_
    have f_g2 : fS N g0 g2 := by rw [e]; exact fS_up f_g1 (by decide)
    clear e
    refine oS_let fun g3 e => ?_
    have f_g3 : fS N g0 g3 := by rw [e]; exact fS_up f_g2 (by decide)
    clear e
    refine oS_ite (fun hb => ?_) (fun hb => ?_)
    · exact f_g3
    · refine oS_dl ?_
      refine oS_let fun p3 e_p3 => ?_
      refine oS_let fun g4 e => ?_
      have f_g4 : fS N g0 g4 := by rw [e, e_p3]; exact fS_tr f_g3 fn108_sz
      clear e
      refine oS_dl ?_
      exact f_g4
theorem fn116_sz {x : List Int} {g0 : rHp} : fS N g0 (fn116 x g0).2.2 := by
  have f_g0 : fS N g0 g0 := fS_refl
  refine zGoo_P (I := fun s => fS N g0 s.2.2) fS_zero (fun s hs => ?_) ?_
  · unfold en116
    refine oS_ite (fun hb => ?_) (fun hb => ?_)
    · refine oS_let fun g1 e => ?_
      have f_g1 : fS N g0 g1 := by rw [e]; exact hs
      clear e
      refine oS_dl ?_
      refine oS_dl ?_
      refine oS_dl ?_
      refine oS_dl ?_
      refine oS_dl ?_
      refine oS_ite (fun hb => ?_) (fun hb => ?_)
      · refine oS_ite (fun hb => ?_) (fun hb => ?_)
        · refine oS_let fun p1 e_p1 => ?_
          refine oS_let fun g2 e => ?_
          have f_g2 : fS N g0 g2 := by rw [e, e_p1]; exact fS_tr f_g1 fn109_sz
          clear e
          exact f_g2
        · refine oS_ite (fun hb => ?_) (fun hb => ?_)
          · refine oS_ite (fun hb => ?_) (fun hb => ?_)
            · refine oS_dl ?_
              refine oS_let fun g2 e => ?_
              have f_g2 : fS N g0 g2 := by rw [e]; exact fS_up f_g1 (by decide)
              clear e
              exact f_g2
            · refine oS_dl ?_
              refine oS_dl ?_
              refine oS_let fun g2 e => ?_
              have f_g2 : fS N g0 g2 := by rw [e]; exact fS_up f_g1 (by decide)
              clear e
              exact f_g2
          · refine oS_let fun p1 e_p1 => ?_
            refine oS_let fun g2 e => ?_
            have f_g2 : fS N g0 g2 := by rw [e, e_p1]; exact fS_tr f_g1 fn109_sz
            clear e
            exact f_g2
      · refine oS_dl ?_
        refine oS_let fun p1 e_p1 => ?_
        refine oS_let fun g2 e => ?_
        have f_g2 : fS N g0 g2 := by rw [e, e_p1]; exact fS_tr f_g1 fn107_sz
        clear e
        refine oS_ite (fun hb => ?_) (fun hb => ?_)
        · refine oS_dl ?_
          refine oS_dl ?_
          refine oS_dl ?_
          refine oS_let fun g3 e => ?_
          have f_g3 : fS N g0 g3 := by rw [e]; exact fS_up f_g2 (by decide)
          clear e
          refine oS_let fun g4 e => ?_
          have f_g4 : fS N g0 g4 := by rw [e]; exact fS_up f_g3 (by decide)
          clear e
          exact f_g4
        · refine oS_ite (fun hb => ?_) (fun hb => ?_)
          · refine oS_let fun p2 e_p2 => ?_
            refine oS_let fun g3 e => ?_
            have f_g3 : fS N g0 g3 := by rw [e, e_p2]; exact fS_tr f_g2 fn109_sz
            clear e
            exact f_g3
          · refine oS_ite (fun hb => ?_) (fun hb => ?_)
            · refine oS_ite (fun hb => ?_) (fun hb => ?_)
              · refine oS_dl ?_
                refine oS_let fun g3 e => ?_
                have f_g3 : fS N g0 g3 := by rw [e]; exact fS_up f_g2 (by decide)
                clear e
                exact f_g3
              · refine oS_dl ?_
                refine oS_dl ?_
                refine oS_let fun g3 e => ?_
                have f_g3 : fS N g0 g3 := by rw [e]; exact fS_up f_g2 (by decide)
                clear e
                exact f_g3
            · refine oS_let fun p2 e_p2 => ?_
              refine oS_let fun g3 e => ?_
              have f_g3 : fS N g0 g3 := by rw [e, e_p2]; exact fS_tr f_g2 fn109_sz
              clear e
              exact f_g3
    · exact f_g0
  · unfold dn116
    refine oS_dl ?_
    refine oS_dl ?_
    refine oS_ite (fun hb => ?_) (fun hb => ?_)
    · refine oS_let fun g1 e => ?_
      have f_g1 : fS N g0 g1 := by rw [e]; exact fS_up f_g0 (by decide)
      clear e
      exact f_g1
    · refine oS_dl ?_
      refine oS_ite (fun hb => ?_) (fun hb => ?_)
      · refine oS_let fun g1 e => ?_
        have f_g1 : fS N g0 g1 := by rw [e]; exact fS_up f_g0 (by decide)
        clear e
        exact f_g1
      · refine oS_let fun g1 e => ?_
        have f_g1 : fS N g0 g1 := by rw [e]; exact fS_up f_g0 (by decide)
        clear e
        refine oS_let fun g2 e => ?_
        have f_g2 : fS N g0 g2 := by rw [e]; exact fS_up f_g1 (by decide)
        clear e
        exact f_g2
theorem fn135_sz {x : List Int} {g0 : rHp} : fS N g0 (fn135 x g0).2.2 := by
  have f_g0 : fS N g0 g0 := fS_refl
  show oP (fun h => fS N g0 h) (fn135 x g0)
  unfold fn135
  refine oP_dl ?_
  refine oP_dl ?_
  refine oP_dl ?_
  refine oP_let fun p0 e_p0 => ?_
  refine oP_let fun g1 e => ?_
  have f_g1 : fS N g0 g1 := by rw [e, e_p0]; exact fS_tr f_g0 fn92_sz
  clear e
  refine oP_dl ?_
  refine oP_let fun p1 e_p1 => ?_
  refine oP_let fun g2 e => ?_
  have f_g2 : fS N g0 g2 := by rw [e, e_p1]; exact fS_tr f_g1 fn104_sz
  clear e
  refine oP_ite (fun hb => ?_) (fun hb => ?_)
  · exact f_g2
  · refine oP_let fun p2 e_p2 => ?_
    refine oP_let fun g3 e => ?_
    have f_g3 : fS N g0 g3 := by rw [e, e_p2]; exact fS_tr f_g2 fn109_sz
    clear e
    exact f_g3
theorem fn147_sz {x : List Int} {g0 : rHp} : fS N g0 (fn147 x g0).2.2 := by
  have f_g0 : fS N g0 g0 := fS_refl
  refine zGoo_P (I := fun s => fS N g0 s.2.2) fS_zero (fun s hs => ?_) ?_
  · unfold en147
    refine oS_ite (fun hb => ?_) (fun hb => ?_)
    · refine oS_let fun g1 e => ?_
      have f_g1 : fS N g0 g1 := by rw [e]; exact hs
      clear e
      refine oS_dl ?_
      refine oS_dl ?_
      refine oS_dl ?_
      refine oS_ite (fun hb => ?_) (fun hb => ?_)
      · exact f_g1
      · refine oS_dl ?_
        refine oS_ite (fun hb => ?_) (fun hb => ?_)
        · exact f_g1
        · refine oS_dl ?_
          refine oS_let fun p1 e_p1 => ?_
          refine oS_let fun g2 e => ?_
          have f_g2 : fS N g0 g2 := by rw [e, e_p1]; exact fS_tr f_g1 fn109_sz
          clear e
          exact f_g2
    · exact f_g0
  · unfold dn147
    refine oS_dl ?_
    exact f_g0
theorem fn152_sz {x : List Int} {g0 : rHp} : fS N g0 (fn152 x g0).2.2 := by
  have f_g0 : fS N g0 g0 := fS_refl
  refine zGoo_P (I := fun s => fS N g0 s.2.2) fS_zero (fun s hs => ?_) ?_
  · unfold en152
    refine oS_ite (fun hb => ?_) (fun hb => ?_)
    · refine oS_let fun g1 e => ?_
      have f_g1 : fS N g0 g1 := by rw [e]; exact hs
      clear e
      refine oS_dl ?_
      refine oS_dl ?_
      refine oS_ite (fun hb => ?_) (fun hb => ?_)
      · exact f_g1
      · refine oS_dl ?_
        refine oS_dl ?_
        refine oS_ite (fun hb => ?_) (fun hb => ?_)
        · exact f_g1
        · refine oS_dl ?_
          refine oS_let fun p1 e_p1 => ?_
          refine oS_let fun g2 e => ?_
          have f_g2 : fS N g0 g2 := by rw [e, e_p1]; exact fS_tr f_g1 fn109_sz
          clear e
          exact f_g2
    · exact f_g0
  · unfold dn152
    exact f_g0
theorem fn111_sz {x : List Int} {g0 : rHp} : fS N g0 (fn111 x g0).2.2 := by
  have f_g0 : fS N g0 g0 := fS_refl
  show oP (fun h => fS N g0 h) (fn111 x g0)
  unfold fn111
  refine oP_dl ?_
  refine oP_let fun g1 e => ?_
  have f_g1 : fS N g0 g1 := by rw [e]; exact fS_up f_g0 (by decide)
  clear e
  refine oP_let fun g2 e => ?_
  have f_g2 : fS N g0 g2 := by rw [e]; exact fS_up f_g1 (by decide)
  clear e
  refine oP_let fun p2 e_p2 => ?_
  refine oP_let fun g3 e => ?_
  have f_g3 : fS N g0 g3 := by rw [e, e_p2]; exact fS_tr f_g2 fn110_sz
  clear e
  exact f_g3
theorem fn149_sz {x : List Int} {g0 : rHp} : fS N g0 (fn149 x g0).2.2 := by
  have f_g0 : fS N g0 g0 := fS_refl
  show oP (fun h => fS N g0 h) (fn149 x g0)
  unfold fn149
  refine oP_let fun p0 e_p0 => ?_
  refine oP_let fun g1 e => ?_
  have f_g1 : fS N g0 g1 := by rw [e, e_p0]; exact fS_tr f_g0 fn114_sz
  clear e
  refine oP_ite (fun hb => ?_) (fun hb => ?_)
  · refine oP_dl ?_
    refine oP_let fun p1 e_p1 => ?_
    refine oP_let fun g2 e => ?_
    have f_g2 : fS N g0 g2 := by rw [e, e_p1]; exact fS_tr f_g1 fn109_sz
    clear e
    exact f_g2
  · exact f_g1
theorem fn151_sz {x : List Int} {g0 : rHp} : fS N g0 (fn151 x g0).2.2 := by
  have f_g0 : fS N g0 g0 := fS_refl
  show oP (fun h => fS N g0 h) (fn151 x g0)
  unfold fn151
  refine oP_dl ?_
  refine oP_dl ?_
  refine oP_dl ?_
  refine oP_dl ?_
  refine oP_let fun p0 e_p0 => ?_
  refine oP_let fun g1 e => ?_
  have f_g1 : fS N g0 g1 := by rw [e, e_p0]; exact fS_tr f_g0 fn114_sz
  clear e
  refine oP_ite (fun hb => ?_) (fun hb => ?_)
  · refine oP_dl ?_
    refine oP_dl ?_
    refine oP_ite (fun hb => ?_) (fun hb => ?_)
    · refine oP_let fun g2 e => ?_
      have f_g2 : fS N g0 g2 := by rw [e]; exact fS_up f_g1 (by decide)
      clear e
      refine oP_ite (fun hb => ?_) (fun hb => ?_)
      · refine oP_let fun p2 e_p2 => ?_
        refine oP_let fun g3 e => ?_
        have f_g3 : fS N g0 g3 := by rw [e, e_p2]; exact fS_tr f_g2 fn109_sz
        clear e
        exact f_g3
      · refine oP_dl ?_
        refine oP_ite (fun hb => ?_) (fun hb => ?_)
        · refine oP_let fun g3 e => ?_
          have f_g3 : fS N g0 g3 := by rw [e]; exact fS_up f_g2 (by decide)
          clear e
          refine oP_ite (fun hb => ?_) (fun hb => ?_)
          · exact f_g3
          · refine oP_let fun p3 e_p3 => ?_
            refine oP_let fun g4 e => ?_
            have f_g4 : fS N g0 g4 := by rw [e, e_p3]; exact fS_tr f_g3 fn109_sz
            clear e
            exact f_g4
        · refine oP_let fun p2 e_p2 => ?_
          refine oP_let fun g3 e => ?_
          have f_g3 : fS N g0 g3 := by rw [e, e_p2]; exact fS_tr f_g2 fn109_sz
          clear e
          exact f_g3
    · refine oP_let fun p1 e_p1 => ?_
      refine oP_let fun g2 e => ?_
      have f_g2 : fS N g0 g2 := by rw [e, e_p1]; exact fS_tr f_g1 fn109_sz
      clear e
      exact f_g2
  · refine oP_dl ?_
    refine oP_let fun p1 e_p1 => ?_
    refine oP_let fun g2 e => ?_
    have f_g2 : fS N g0 g2 := by rw [e, e_p1]; exact fS_tr f_g1 fn109_sz
    clear e
    exact f_g2
theorem fn154_sz {x : List Int} {g0 : rHp} : fS N g0 (fn154 x g0).2.2 := by
  have f_g0 : fS N g0 g0 := fS_refl
  show oP (fun h => fS N g0 h) (fn154 x g0)
  unfold fn154
  refine oP_dl ?_
  refine oP_dl ?_
  refine oP_dl ?_
  refine oP_dl ?_
  refine oP_let fun p0 e_p0 => ?_
  refine oP_let fun g1 e => ?_
  have f_g1 : fS N g0 g1 := by rw [e, e_p0]; exact fS_tr f_g0 fn114_sz
  clear e
  refine oP_ite (fun hb => ?_) (fun hb => ?_)
  · refine oP_dl ?_
    refine oP_dl ?_
    refine oP_ite (fun hb => ?_) (fun hb => ?_)
    · refine oP_let fun g2 e => ?_
      have f_g2 : fS N g0 g2 := by rw [e]; exact fS_up f_g1 (by decide)
      clear e
      refine oP_let fun g3 e => ?_
      have f_g3 : fS N g0 g3 := by rw [e]; exact fS_up f_g2 (by decide)
      clear e
      refine oP_ite (fun hb => ?_) (fun hb => ?_)
      · exact f_g3
      · refine oP_dl ?_
        refine oP_ite (fun hb => ?_) (fun hb => ?_)
        · exact f_g3
        · refine oP_let fun g4 e => ?_
          have f_g4 : fS N g0 g4 := by rw [e]; exact fS_up f_g3 (by decide)
          clear e
          refine oP_let fun g5 e => ?_
          have f_g5 : fS N g0 g5 := by rw [e]; exact fS_up f_g4 (by decide)
          clear e
          exact f_g5
    · refine oP_ite (fun hb => ?_) (fun hb => ?_)
      · refine oP_let fun g2 e => ?_
        have f_g2 : fS N g0 g2 := by rw [e]; exact fS_up f_g1 (by decide)
        clear e
        refine oP_let fun g3 e => ?_
        have f_g3 : fS N g0 g3 := by rw [e]; exact fS_up f_g2 (by decide)
        clear e
        exact f_g3
      · refine oP_let fun p1 e_p1 => ?_
        refine oP_let fun g2 e => ?_
        have f_g2 : fS N g0 g2 := by rw [e, e_p1]; exact fS_tr f_g1 fn109_sz
        clear e
        exact f_g2
  · refine oP_dl ?_
    refine oP_let fun p1 e_p1 => ?_
    refine oP_let fun g2 e => ?_
    have f_g2 : fS N g0 g2 := by rw [e, e_p1]; exact fS_tr f_g1 fn109_sz
    clear e
    exact f_g2
theorem fn153_sz {x : List Int} {g0 : rHp} : fS N g0 (fn153 x g0).2.2 := by
  have f_g0 : fS N g0 g0 := fS_refl
  refine zGoo_P (I := fun s => fS N g0 s.2.2) fS_zero (fun s hs => ?_) ?_
  · unfold en153
    refine oS_ite (fun hb => ?_) (fun hb => ?_)
    · refine oS_let fun g1 e => ?_
      have f_g1 : fS N g0 g1 := by rw [e]; exact hs
      clear e
      refine oS_dl ?_
      refine oS_dl ?_
      refine oS_dl ?_
      refine oS_dl ?_
      refine oS_dl ?_
      refine oS_dl ?_
      refine oS_ite (fun hb => ?_) (fun hb => ?_)
      · exact f_g1
      · refine oS_dl ?_
        refine oS_ite (fun hb => ?_) (fun hb => ?_)
        · refine oS_ite (fun hb => ?_) (fun hb => ?_)
          · exact f_g1
          · refine oS_ite (fun hb => ?_) (fun hb => ?_)
            · exact f_g1
            · refine oS_let fun p1 e_p1 => ?_
              refine oS_let fun g2 e => ?_
              have f_g2 : fS N g0 g2 := by rw [e, e_p1]; exact fS_tr f_g1 fn118_sz
              clear e
              refine oS_ite (fun hb => ?_) (fun hb => ?_)
              · exact f_g2
              · refine oS_let fun p2 e_p2 => ?_
                refine oS_let fun g3 e => ?_
                have f_g3 : fS N g0 g3 := by rw [e, e_p2]; exact fS_tr f_g2 fn109_sz
                clear e
                exact f_g3
        · refine oS_dl ?_
          refine oS_let fun p1 e_p1 => ?_
          refine oS_let fun g2 e => ?_
          have f_g2 : fS N g0 g2 := by rw [e, e_p1]; exact fS_tr f_g1 fn117_sz
          clear e
          refine oS_ite (fun hb => ?_) (fun hb => ?_)
          · exact f_g2
          · refine oS_dl ?_
            refine oS_let fun p2 e_p2 => ?_
            refine oS_let fun g3 e => ?_
            have f_g3 : fS N g0 g3 := by rw [e, e_p2]; exact fS_tr f_g2 fn109_sz
            clear e
            exact f_g3
    · exact f_g0
  · unfold dn153
    refine oS_dl ?_
    exact f_g0
theorem fn120_sz {x : List Int} {g0 : rHp} : fS N g0 (fn120 x g0).2.2 := by
  have f_g0 : fS N g0 g0 := fS_refl
  show oP (fun h => fS N g0 h) (fn120 x g0)
  unfold fn120
  refine oP_dl ?_
  refine oP_dl ?_
  refine oP_let fun p0 e_p0 => ?_
  refine oP_let fun g1 e => ?_
  have f_g1 : fS N g0 g1 := by rw [e, e_p0]; exact fS_tr f_g0 fn119_sz
  clear e
  refine oP_dl ?_
  refine oP_ite (fun hb => ?_) (fun hb => ?_)
  · refine oP_ite (fun hb => ?_) (fun hb => ?_)
    · refine oP_let fun g2 e => ?_
      have f_g2 : fS N g0 g2 := by rw [e]; exact fS_up f_g1 (by decide)
      clear e
      refine oP_let fun g3 e => ?_
      have f_g3 : fS N g0 g3 := by rw [e]; exact fS_up f_g2 (by decide)
      clear e
      refine oP_let fun g4 e => ?_
      have f_g4 : fS N g0 g4 := by rw [e]; exact fS_up f_g3 (by decide)
      clear e
      exact f_g4
    · exact f_g1
  · refine oP_dl ?_
    refine oP_dl ?_
    refine oP_let fun g2 e => ?_
    have f_g2 : fS N g0 g2 := by rw [e]; exact fS_up f_g1 (by decide)
    clear e
    exact f_g2
theorem fn138_sz {x : List Int} {g0 : rHp} : fS N g0 (fn138 x g0).2.2 := by
  have f_g0 : fS N g0 g0 := fS_refl
  show oP (fun h => fS N g0 h) (fn138 x g0)
  unfold fn138
  refine oP_dl ?_
  refine oP_dl ?_
  refine oP_dl ?_
  refine oP_let fun p0 e_p0 => ?_
  refine oP_let fun g1 e => ?_
  have f_g1 : fS N g0 g1 := by rw [e, e_p0]; exact fS_tr f_g0 fn119_sz
  clear e
  refine oP_dl ?_
  refine oP_ite (fun hb => ?_) (fun hb => ?_)
  · refine oP_let fun p1 e_p1 => ?_
    refine oP_let fun g2 e => ?_
    have f_g2 : fS N g0 g2 := by rw [e, e_p1]; exact fS_tr f_g1 fn109_sz
    clear e
    exact f_g2
  · refine oP_let fun p1 e_p1 => ?_
    refine oP_let fun g2 e => ?_
    have f_g2 : fS N g0 g2 := by rw [e, e_p1]; exact fS_tr f_g1 fn117_sz
    clear e
    refine oP_ite (fun hb => ?_) (fun hb => ?_)
    · refine oP_dl ?_
      refine oP_dl ?_
      refine oP_let fun g3 e => ?_
      have f_g3 : fS N g0 g3 := by rw [e]; exact fS_up f_g2 (by decide)
      clear e
      refine oP_let fun p3 e_p3 => ?_
      refine oP_let fun g4 e => ?_
      have f_g4 : fS N g0 g4 := by rw [e, e_p3]; exact fS_tr f_g3 fn104_sz
      clear e
      exact f_g4
    · refine oP_let fun p2 e_p2 => ?_
      refine oP_let fun g3 e => ?_
      have f_g3 : fS N g0 g3 := by rw [e, e_p2]; exact fS_tr f_g2 fn109_sz
      clear e
      exact f_g3
theorem fn133_sz {x : List Int} {g0 : rHp} : fS N g0 (fn133 x g0).2.2 := by
  have f_g0 : fS N g0 g0 := fS_refl
  show oP (fun h => fS N g0 h) (fn133 x g0)
  unfold fn133
  refine oP_dl ?_
  refine oP_dl ?_
  refine oP_dl ?_
  refine oP_dl ?_
  refine oP_dl ?_
  refine oP_dl ?_
  refine oP_let fun p0 e_p0 => ?_
  refine oP_let fun g1 e => ?_
  have f_g1 : fS N g0 g1 := by rw [e, e_p0]; exact fS_tr f_g0 fn125_sz
  clear e
  refine oP_dl ?_
  refine oP_let fun g2 e => ?_
  have f_g2 : fS N g0 g2 := by rw [e]; exact fS_up f_g1 (by decide)
  clear e
  refine oP_ite (fun hb => ?_) (fun hb => ?_)
  · exact f_g2
  · refine oP_ite (fun hb => ?_) (fun hb => ?_)
    · refine oP_ite (fun hb => ?_) (fun hb => ?_)
      · exact f_g2
      · refine oP_let fun p2 e_p2 => ?_
        refine oP_let fun g3 e => ?_
        have f_g3 : fS N g0 g3 := by rw [e, e_p2]; exact fS_tr f_g2 fn109_sz
        clear e
        exact f_g3
    · refine oP_let fun p2 e_p2 => ?_
      refine oP_let fun g3 e => ?_
      have f_g3 : fS N g0 g3 := by rw [e, e_p2]; exact fS_tr f_g2 fn126_sz
      clear e
      refine oP_dl ?_
      refine oP_let fun g4 e => ?_
      have f_g4 : fS N g0 g4 := by rw [e]; exact fS_up f_g3 (by decide)
      clear e
      refine oP_ite (fun hb => ?_) (fun hb => ?_)
      · exact f_g4
      · refine oP_let fun p4 e_p4 => ?_
        refine oP_let fun g5 e => ?_
        have f_g5 : fS N g0 g5 := by rw [e, e_p4]; exact fS_tr f_g4 fn109_sz
        clear e
        exact f_g5
theorem fn134_sz {x : List Int} {g0 : rHp} : fS N g0 (fn134 x g0).2.2 := by
  have f_g0 : fS N g0 g0 := fS_refl
  show oP (fun h => fS N g0 h) (fn134 x g0)
  unfold fn134
  refine oP_dl ?_
  refine oP_dl ?_
  refine oP_dl ?_
  refine oP_dl ?_
  refine oP_dl ?_
  refine oP_dl ?_
  refine oP_dl ?_
  refine oP_let fun p0 e_p0 => ?_
  refine oP_let fun g1 e => ?_
  have f_g1 : fS N g0 g1 := by rw [e, e_p0]; exact fS_tr f_g0 fn125_sz
  clear e
  refine oP_dl ?_
  refine oP_let fun g2 e => ?_
  have f_g2 : fS N g0 g2 := by rw [e]; exact fS_up f_g1 (by decide)
  clear e
  refine oP_ite (fun hb => ?_) (fun hb => ?_)
  · exact f_g2
  · refine oP_ite (fun hb => ?_) (fun hb => ?_)
    · refine oP_ite (fun hb => ?_) (fun hb => ?_)
      · exact f_g2
      · refine oP_let fun p2 e_p2 => ?_
        refine oP_let fun g3 e => ?_
        have f_g3 : fS N g0 g3 := by rw [e, e_p2]; exact fS_tr f_g2 fn109_sz
        clear e
        exact f_g3
    · refine oP_let fun p2 e_p2 => ?_
      refine oP_let fun g3 e => ?_
      have f_g3 : fS N g0 g3 := by rw [e, e_p2]; exact fS_tr f_g2 fn126_sz
      clear e
      refine oP_dl ?_
      refine oP_let fun g4 e => ?_
      have f_g4 : fS N g0 g4 := by rw [e]; exact fS_up f_g3 (by decide)
      clear e
      refine oP_ite (fun hb => ?_) (fun hb => ?_)
      · exact f_g4
      · refine oP_let fun p4 e_p4 => ?_
        refine oP_let fun g5 e => ?_
        have f_g5 : fS N g0 g5 := by rw [e, e_p4]; exact fS_tr f_g4 fn109_sz
        clear e
        exact f_g5
theorem fn128_sz {x : List Int} {g0 : rHp} : fS N g0 (fn128 x g0).2.2 := by
  have f_g0 : fS N g0 g0 := fS_refl
  refine zGoo_P (I := fun s => fS N g0 s.2.2) fS_zero (fun s hs => ?_) ?_
  · unfold en128
    refine oS_ite (fun hb => ?_) (fun hb => ?_)
    · refine oS_let fun g1 e => ?_
      have f_g1 : fS N g0 g1 := by rw [e]; exact hs
      clear e
      refine oS_dl ?_
      refine oS_dl ?_
      refine oS_dl ?_
      refine oS_dl ?_
      refine oS_ite (fun hb => ?_) (fun hb => ?_)
      · exact f_g1
      · refine oS_dl ?_
        refine oS_ite (fun hb => ?_) (fun hb => ?_)
        · exact f_g1
        · refine oS_let fun p1 e_p1 => ?_
          refine oS_let fun g2 e => ?_
          have f_g2 : fS N g0 g2 := by rw [e, e_p1]; exact fS_tr f_g1 fn127_sz
          clear e
          refine oS_ite (fun hb => ?_) (fun hb => ?_)
          · exact f_g2
          · exact f_g2
    · exact f_g0
  · unfold dn128
    refine oS_dl ?_
    exact f_g0
theorem fn163_sz {x : List Int} {g0 : rHp} : fS N g0 (fn163 x g0).2.2 := by
  have f_g0 : fS N g0 g0 := fS_refl
  show oP (fun h => fS N g0 h) (fn163 x g0)
  unfold fn163
  refine oP_let fun g1 e => ?_
  have f_g1 : fS N g0 g1 := by rw [e]; exact fS_up f_g0 (by decide)
  clear e
  refine oP_dl ?_
  refine oP_let fun p1 e_p1 => ?_
  refine oP_let fun g2 e => ?_
  have f_g2 : fS N g0 g2 := by rw [e, e_p1]; exact fS_tr f_g1 fn162_sz
  clear e
  exact f_g2
theorem fn136_sz {x : List Int} {g0 : rHp} : fS N g0 (fn136 x g0).2.2 := by
  have f_g0 : fS N g0 g0 := fS_refl
  show oP (fun h => fS N g0 h) (fn136 x g0)
  unfold fn136
  refine oP_dl ?_
  refine oP_let fun p0 e_p0 => ?_
  refine oP_let fun g1 e => ?_
  have f_g1 : fS N g0 g1 := by rw [e, e_p0]; exact fS_tr f_g0 fn114_sz
  clear e
  refine oP_ite (fun hb => ?_) (fun hb => ?_)
  · refine oP_dl ?_
    refine oP_dl ?_
    refine oP_let fun p1 e_p1 => ?_
    refine oP_let fun g2 e => ?_
    have f_g2 : fS N g0 g2 := by rw [e, e_p1]; exact fS_tr f_g1 fn105_sz
    clear e
    refine oP_ite (fun hb => ?_) (fun hb => ?_)
    · refine oP_let fun p2 e_p2 => ?_
      refine oP_let fun g3 e => ?_
      have f_g3 : fS N g0 g3 := by rw [e, e_p2]; exact fS_tr f_g2 fn115_sz
      clear e
      refine oP_ite (fun hb => ?_) (fun hb => ?_)
      · refine oP_dl ?_
        refine oP_let fun p3 e_p3 => ?_
        refine oP_let fun g4 e => ?_
        have f_g4 : fS N g0 g4 := by rw [e, e_p3]; exact fS_tr f_g3 fn135_sz
        clear e
        refine oP_ite (fun hb => ?_) (fun hb => ?_)
        · exact f_g4
        · exact f_g4
      · exact f_g3
    · refine oP_let fun p2 e_p2 => ?_
      refine oP_let fun g3 e => ?_
      have f_g3 : fS N g0 g3 := by rw [e, e_p2]; exact fS_tr f_g2 fn107_sz
      clear e
      refine oP_ite (fun hb => ?_) (fun hb => ?_)
      · refine oP_let fun p3 e_p3 => ?_
        refine oP_let fun g4 e => ?_
        have f_g4 : fS N g0 g4 := by rw [e, e_p3]; exact fS_tr f_g3 fn116_sz
        clear e
        refine oP_ite (fun hb => ?_) (fun hb => ?_)
        · refine oP_dl ?_
          refine oP_let fun p4 e_p4 => ?_
          refine oP_let fun g5 e => ?_
          have f_g5 : fS N g0 g5 := by rw [e, e_p4]; exact fS_tr f_g4 fn104_sz
          clear e
          exact f_g5
        · exact f_g4
      · refine oP_ite (fun hb => ?_) (fun hb => ?_)
        · refine oP_let fun p3 e_p3 => ?_
          refine oP_let fun g4 e => ?_
          have f_g4 : fS N g0 g4 := by rw [e, e_p3]; exact fS_tr f_g3 fn116_sz
          clear e
          refine oP_ite (fun hb => ?_) (fun hb => ?_)
          · refine oP_dl ?_
            refine oP_let fun p4 e_p4 => ?_
            refine oP_let fun g5 e => ?_
            have f_g5 : fS N g0 g5 := by rw [e, e_p4]; exact fS_tr f_g4 fn104_sz
            clear e
            exact f_g5
          · exact f_g4
        · refine oP_let fun p3 e_p3 => ?_
          refine oP_let fun g4 e => ?_
          have f_g4 : fS N g0 g4 := by rw [e, e_p3]; exact fS_tr f_g3 fn109_sz
          clear e
          exact f_g4
  · refine oP_dl ?_
    refine oP_let fun p1 e_p1 => ?_
    refine oP_let fun g2 e => ?_
    have f_g2 : fS N g0 g2 := by rw [e, e_p1]; exact fS_tr f_g1 fn105_sz
    clear e
    refine oP_let fun p2 e_p2 => ?_
    refine oP_let fun g3 e => ?_
    have f_g3 : fS N g0 g3 := by rw [e, e_p2]; exact fS_tr f_g2 fn107_sz
    clear e
    refine oP_let fun p3 e_p3 => ?_
    refine oP_let fun g4 e => ?_
    have f_g4 : fS N g0 g4 := by rw [e, e_p3]; exact fS_tr f_g3 fn109_sz
    clear e
    exact f_g4
theorem fn148_sz {x : List Int} {g0 : rHp} : fS N g0 (fn148 x g0).2.2 := by
  have f_g0 : fS N g0 g0 := fS_refl
  show oP (fun h => fS N g0 h) (fn148 x g0)
  unfold fn148
  refine oP_dl ?_
  refine oP_let fun p0 e_p0 => ?_
  refine oP_let fun g1 e => ?_
  have f_g1 : fS N g0 g1 := by rw [e, e_p0]; exact fS_tr f_g0 fn114_sz
  clear e
  refine oP_ite (fun hb => ?_) (fun hb => ?_)
  · refine oP_dl ?_
    refine oP_dl ?_
    refine oP_ite (fun hb => ?_) (fun hb => ?_)
    · refine oP_let fun g2 e => ?_
      have f_g2 : fS N g0 g2 := by rw [e]; exact fS_up f_g1 (by decide)
      clear e
      refine oP_let fun p2 e_p2 => ?_
      refine oP_let fun g3 e => ?_
      have f_g3 : fS N g0 g3 := by rw [e, e_p2]; exact fS_tr f_g2 fn147_sz
      clear e
      refine oP_ite (fun hb => ?_) (fun hb => ?_)
      · exact f_g3
      · exact f_g3
    · refine oP_let fun p1 e_p1 => ?_
      refine oP_let fun g2 e => ?_
      have f_g2 : fS N g0 g2 := by rw [e, e_p1]; exact fS_tr f_g1 fn109_sz
      clear e
      exact f_g2
  · refine oP_dl ?_
    refine oP_let fun p1 e_p1 => ?_
    refine oP_let fun g2 e => ?_
    have f_g2 : fS N g0 g2 := by rw [e, e_p1]; exact fS_tr f_g1 fn109_sz
    clear e
    exact f_g2
theorem fn137_sz {x : List Int} {g0 : rHp} : fS N g0 (fn137 x g0).2.2 := by
  have f_g0 : fS N g0 g0 := fS_refl
  show oP (fun h => fS N g0 h) (fn137 x g0)
  unfold fn137
  refine oP_dl ?_
  refine oP_dl ?_
  refine oP_dl ?_
  refine oP_dl ?_
  refine oP_dl ?_
  refine oP_let fun p0 e_p0 => ?_
  refine oP_let fun g1 e => ?_
  have f_g1 : fS N g0 g1 := by rw [e, e_p0]; exact fS_tr f_g0 fn120_sz
  clear e
  refine oP_dl ?_
  refine oP_ite (fun hb => ?_) (fun hb => ?_)
  · refine oP_ite (fun hb => ?_) (fun hb => ?_)
    · refine oP_let fun p1 e_p1 => ?_
      refine oP_let fun g2 e => ?_
      have f_g2 : fS N g0 g2 := by rw [e, e_p1]; exact fS_tr f_g1 fn104_sz
      clear e
      exact f_g2
    · refine oP_let fun p1 e_p1 => ?_
      refine oP_let fun g2 e => ?_
      have f_g2 : fS N g0 g2 := by rw [e, e_p1]; exact fS_tr f_g1 fn117_sz
      clear e
      refine oP_ite (fun hb => ?_) (fun hb => ?_)
      · refine oP_let fun p2 e_p2 => ?_
        refine oP_let fun g3 e => ?_
        have f_g3 : fS N g0 g3 := by rw [e, e_p2]; exact fS_tr f_g2 fn104_sz
        clear e
        exact f_g3
      · refine oP_ite (fun hb => ?_) (fun hb => ?_)
        · refine oP_let fun p2 e_p2 => ?_
          refine oP_let fun g3 e => ?_
          have f_g3 : fS N g0 g3 := by rw [e, e_p2]; exact fS_tr f_g2 fn104_sz
          clear e
          refine oP_let fun p3 e_p3 => ?_
          refine oP_let fun g4 e => ?_
          have f_g4 : fS N g0 g4 := by rw [e, e_p3]; exact fS_tr f_g3 fn121_sz
          clear e
          exact f_g4
        · refine oP_let fun p2 e_p2 => ?_
          refine oP_let fun g3 e => ?_
          have f_g3 : fS N g0 g3 := by rw [e, e_p2]; exact fS_tr f_g2 fn104_sz
          clear e
          refine oP_dl ?_
          refine oP_dl ?_
          refine oP_let fun g4 e => ?_
          have f_g4 : fS N g0 g4 := by rw [e]; exact fS_up f_g3 (by decide)
          clear e
          exact f_g4
  · refine oP_let fun p1 e_p1 => ?_
    refine oP_let fun g2 e => ?_
    have f_g2 : fS N g0 g2 := by rw [e, e_p1]; exact fS_tr f_g1 fn109_sz
    clear e
    exact f_g2
theorem fn140_sz {x : List Int} {g0 : rHp} : fS N g0 (fn140 x g0).2.2 := by
  have f_g0 : fS N g0 g0 := fS_refl
  show oP (fun h => fS N g0 h) (fn140 x g0)
  unfold fn140
  refine oP_dl ?_
  refine oP_dl ?_
  refine oP_dl ?_
  refine oP_dl ?_
  refine oP_dl ?_
  refine oP_ite (fun hb => ?_) (fun hb => ?_)
  · refine oP_let fun g1 e => ?_
    have f_g1 : fS N g0 g1 := by rw [e]; exact fS_up f_g0 (by decide)
    clear e
    refine oP_let fun p1 e_p1 => ?_
    refine oP_let fun g2 e => ?_
    have f_g2 : fS N g0 g2 := by rw [e, e_p1]; exact fS_tr f_g1 fn104_sz
    clear e
    refine oP_let fun g3 e => ?_
    have f_g3 : fS N g0 g3 := by rw [e]; exact fS_up f_g2 (by decide)
    clear e
    refine oP_let fun p3 e_p3 => ?_
    refine oP_let fun g4 e => ?_
    have f_g4 : fS N g0 g4 := by rw [e, e_p3]; exact fS_tr f_g3 fn114_sz
    clear e
    refine oP_ite (fun hb => ?_) (fun hb => ?_)
    · refine oP_dl ?_
      refine oP_dl ?_
      refine oP_let fun p4 e_p4 => ?_
      refine oP_let fun g5 e => ?_
      have f_g5 : fS N g0 g5 := by rw [e, e_p4]; exact fS_tr f_g4 fn105_sz
      clear e
      refine oP_ite (fun hb => ?_) (fun hb => ?_)
      · refine oP_let fun p5 e_p5 => ?_
        refine oP_let fun g6 e => ?_
        have f_g6 : fS N g0 g6 := by rw [e, e_p5]; exact fS_tr f_g5 fn115_sz
        clear e
        refine oP_ite (fun hb => ?_) (fun hb => ?_)
        · refine oP_dl ?_
          refine oP_let fun p6 e_p6 => ?_
          refine oP_let fun g7 e => ?_
          have f_g7 : fS N g0 g7 := by rw [e, e_p6]; exact fS_tr f_g6 fn122_sz
          clear e
          refine oP_dl ?_
          refine oP_let fun g8 e => ?_
          have f_g8 : fS N g0 g8 := by rw [e]; exact fS_up f_g7 (by decide)
          clear e
          refine oP_ite (fun hb => ?_) (fun hb => ?_)
          · refine oP_ite (fun hb => ?_) (fun hb => ?_)
            · refine oP_let fun p8 e_p8 => ?_
              refine oP_let fun g9 e => ?_
              have f_g9 : fS N g0 g9 := by rw [e, e_p8]; exact fS_tr f_g8 fn114_sz
              clear e
              refine oP_ite (fun hb => ?_) (fun hb => ?_)
              · refine oP_dl ?_
                refine oP_dl ?_
                refine oP_let fun p9 e_p9 => ?_
                refine oP_let fun g10 e => ?_
                have f_g10 : fS N g0 g10 := by rw [e, e_p9]; exact fS_tr f_g9 fn106_sz
                clear e
                refine oP_ite (fun hb => ?_) (fun hb => ?_)
                · refine oP_let fun p10 e_p10 => ?_
                  refine oP_let fun g11 e => ?_
                  have f_g11 : fS N g0 g11 := by rw [e, e_p10]; exact fS_tr f_g10 fn115_sz
                  clear e
                  refine oP_ite (fun hb => ?_) (fun hb => ?_)
                  · refine oP_let fun g12 e => ?_
                    have f_g12 : fS N g0 g12 := by rw [e]; exact fS_up f_g11 (by decide)
                    clear e
                    refine oP_dl ?_
                    refine oP_let fun p12 e_p12 => ?_
                    refine oP_let fun g13 e => ?_
                    have f_g13 : fS N g0 g13 := by rw [e, e_p12]; exact fS_tr f_g12 fn120_sz
                    clear e
                    refine oP_dl ?_
                    refine oP_let fun g14 e => ?_
                    have f_g14 : fS N g0 g14 := by rw [e]; exact fS_up f_g13 (by decide)
                    clear e
                    refine oP_ite (fun hb => ?_) (fun hb => ?_)
                    · exact f_g14
                    · refine oP_let fun p14 e_p14 => ?_
                      refine oP_let fun g15 e => ?_
                      have f_g15 : fS N g0 g15 := by rw [e, e_p14]; exact fS_tr f_g14 fn109_sz
                      clear e
                      exact f_g15
                  · exact f_g11
                · refine oP_let fun p10 e_p10 => ?_
                  refine oP_let fun g11 e => ?_
                  have f_g11 : fS N g0 g11 := by rw [e, e_p10]; exact fS_tr f_g10 fn109_sz
                  clear e
                  exact f_g11
              · refine oP_dl ?_
                refine oP_let fun p9 e_p9 => ?_
                refine oP_let fun g10 e => ?_
                have f_g10 : fS N g0 g10 := by rw [e, e_p9]; exact fS_tr f_g9 fn106_sz
                clear e
                refine oP_let fun p10 e_p10 => ?_
                refine oP_let fun g11 e => ?_
                have f_g11 : fS N g0 g11 := by rw [e, e_p10]; exact fS_tr f_g10 fn109_sz
                clear e
                exact f_g11
            · exact f_g8
          · refine oP_let fun p8 e_p8 => ?_
            refine oP_let fun g9 e => ?_
            have f_g9 : fS N g0 g9 := by rw [e, e_p8]; exact fS_tr f_g8 fn109_sz
            clear e
            exact f_g9
        · exact f_g6
      · refine oP_let fun p5 e_p5 => ?_
        refine oP_let fun g6 e => ?_
        have f_g6 : fS N g0 g6 := by rw [e, e_p5]; exact fS_tr f_g5 fn109_sz
        clear e
        exact f_g6
    · refine oP_dl ?_
      refine oP_let fun p4 e_p4 => ?_
      refine oP_let fun g5 e => ?_
      have f_g5 : fS N g0 g5 := by rw [e, e_p4]; exact fS_tr f_g4 fn105_sz
      clear e
      refine oP_let fun p5 e_p5 => ?_
      refine oP_let fun g6 e => ?_
      have f_g6 : fS N g0 g6 := by rw [e, e_p5]; exact fS_tr f_g5 fn109_sz
      clear e
      exact f_g6
  · refine oP_let fun p0 e_p0 => ?_
    refine oP_let fun g1 e => ?_
    have f_g1 : fS N g0 g1 := by rw [e, e_p0]; exact fS_tr f_g0 fn109_sz
    clear e
    exact f_g1
theorem fn139_sz {x : List Int} {g0 : rHp} : fS N g0 (fn139 x g0).2.2 := by
  have f_g0 : fS N g0 g0 := fS_refl
  show oP (fun h => fS N g0 h) (fn139 x g0)
  unfold fn139
  refine oP_dl ?_
  refine oP_let fun p0 e_p0 => ?_
  refine oP_let fun g1 e => ?_
  have f_g1 : fS N g0 g1 := by rw [e, e_p0]; exact fS_tr f_g0 fn114_sz
  clear e
  refine oP_ite (fun hb => ?_) (fun hb => ?_)
  · refine oP_dl ?_
    refine oP_dl ?_
    refine oP_let fun p1 e_p1 => ?_
    refine oP_let fun g2 e => ?_
    have f_g2 : fS N g0 g2 := by rw [e, e_p1]; exact fS_tr f_g1 fn106_sz
    clear e
    refine oP_ite (fun hb => ?_) (fun hb => ?_)
    · refine oP_let fun p2 e_p2 => ?_
      refine oP_let fun g3 e => ?_
      have f_g3 : fS N g0 g3 := by rw [e, e_p2]; exact fS_tr f_g2 fn115_sz
      clear e
      refine oP_ite (fun hb => ?_) (fun hb => ?_)
      · refine oP_dl ?_
        refine oP_let fun p3 e_p3 => ?_
        refine oP_let fun g4 e => ?_
        have f_g4 : fS N g0 g4 := by rw [e, e_p3]; exact fS_tr f_g3 fn138_sz
        clear e
        refine oP_ite (fun hb => ?_) (fun hb => ?_)
        · exact f_g4
        · exact f_g4
      · exact f_g3
    · refine oP_let fun p2 e_p2 => ?_
      refine oP_let fun g3 e => ?_
      have f_g3 : fS N g0 g3 := by rw [e, e_p2]; exact fS_tr f_g2 fn136_sz
      clear e
      refine oP_ite (fun hb => ?_) (fun hb => ?_)
      · exact f_g3
      · exact f_g3
  · refine oP_let fun p1 e_p1 => ?_
    refine oP_let fun g2 e => ?_
    have f_g2 : fS N g0 g2 := by rw [e, e_p1]; exact fS_tr f_g1 fn106_sz
    clear e
    refine oP_let fun p2 e_p2 => ?_
    refine oP_let fun g3 e => ?_
    have f_g3 : fS N g0 g3 := by rw [e, e_p2]; exact fS_tr f_g2 fn136_sz
    clear e
    exact f_g3
theorem fn150_sz {x : List Int} {g0 : rHp} : fS N g0 (fn150 x g0).2.2 := by
  have f_g0 : fS N g0 g0 := fS_refl
  show oP (fun h => fS N g0 h) (fn150 x g0)
  unfold fn150
  refine oP_dl ?_
  refine oP_dl ?_
  refine oP_let fun p0 e_p0 => ?_
  refine oP_let fun g1 e => ?_
  have f_g1 : fS N g0 g1 := by rw [e, e_p0]; exact fS_tr f_g0 fn148_sz
  clear e
  refine oP_ite (fun hb => ?_) (fun hb => ?_)
  · refine oP_let fun p1 e_p1 => ?_
    refine oP_let fun g2 e => ?_
    have f_g2 : fS N g0 g2 := by rw [e, e_p1]; exact fS_tr f_g1 fn128_sz
    clear e
    refine oP_dl ?_
    refine oP_ite (fun hb => ?_) (fun hb => ?_)
    · exact f_g2
    · refine oP_let fun p2 e_p2 => ?_
      refine oP_let fun g3 e => ?_
      have f_g3 : fS N g0 g3 := by rw [e, e_p2]; exact fS_tr f_g2 fn129_sz
      clear e
      refine oP_ite (fun hb => ?_) (fun hb => ?_)
      · exact f_g3
      · refine oP_let fun p3 e_p3 => ?_
        refine oP_let fun g4 e => ?_
        have f_g4 : fS N g0 g4 := by rw [e, e_p3]; exact fS_tr f_g3 fn109_sz
        clear e
        exact f_g4
  · exact f_g1
theorem fn142_sz {x : List Int} {g0 : rHp} : fS N g0 (fn142 x g0).2.2 := by
  have f_g0 : fS N g0 g0 := fS_refl
  show oP (fun h => fS N g0 h) (fn142 x g0)
  unfold fn142
  refine oP_dl ?_
  refine oP_dl ?_
  refine oP_dl ?_
  refine oP_let fun p0 e_p0 => ?_
  refine oP_let fun g1 e => ?_
  have f_g1 : fS N g0 g1 := by rw [e, e_p0]; exact fS_tr f_g0 fn114_sz
  clear e
  refine oP_ite (fun hb => ?_) (fun hb => ?_)
  · refine oP_dl ?_
    refine oP_dl ?_
    refine oP_let fun p1 e_p1 => ?_
    refine oP_let fun g2 e => ?_
    have f_g2 : fS N g0 g2 := by rw [e, e_p1]; exact fS_tr f_g1 fn106_sz
    clear e
    refine oP_ite (fun hb => ?_) (fun hb => ?_)
    · refine oP_let fun p2 e_p2 => ?_
      refine oP_let fun g3 e => ?_
      have f_g3 : fS N g0 g3 := by rw [e, e_p2]; exact fS_tr f_g2 fn115_sz
      clear e
      refine oP_ite (fun hb => ?_) (fun hb => ?_)
      · refine oP_let fun p3 e_p3 => ?_
        refine oP_let fun g4 e => ?_
        have f_g4 : fS N g0 g4 := by rw [e, e_p3]; exact fS_tr f_g3 fn137_sz
        clear e
        refine oP_ite (fun hb => ?_) (fun hb => ?_)
        · exact f_g4
        · exact f_g4
      · exact f_g3
    · refine oP_ite (fun hb => ?_) (fun hb => ?_)
      · refine oP_ite (fun hb => ?_) (fun hb => ?_)
        · refine oP_let fun p2 e_p2 => ?_
          refine oP_let fun g3 e => ?_
          have f_g3 : fS N g0 g3 := by rw [e, e_p2]; exact fS_tr f_g2 fn136_sz
          clear e
          refine oP_ite (fun hb => ?_) (fun hb => ?_)
          · exact f_g3
          · exact f_g3
        · refine oP_let fun p2 e_p2 => ?_
          refine oP_let fun g3 e => ?_
          have f_g3 : fS N g0 g3 := by rw [e, e_p2]; exact fS_tr f_g2 fn104_sz
          clear e
          refine oP_let fun g4 e => ?_
          have f_g4 : fS N g0 g4 := by rw [e]; exact fS_up f_g3 (by decide)
          clear e
          exact f_g4
      · refine oP_let fun p2 e_p2 => ?_
        refine oP_let fun g3 e => ?_
        have f_g3 : fS N g0 g3 := by rw [e, e_p2]; exact fS_tr f_g2 fn136_sz
        clear e
        refine oP_ite (fun hb => ?_) (fun hb => ?_)
        · exact f_g3
        · exact f_g3
  · refine oP_let fun p1 e_p1 => ?_
    refine oP_let fun g2 e => ?_
    have f_g2 : fS N g0 g2 := by rw [e, e_p1]; exact fS_tr f_g1 fn106_sz
    clear e
    refine oP_let fun p2 e_p2 => ?_
    refine oP_let fun g3 e => ?_
    have f_g3 : fS N g0 g3 := by rw [e, e_p2]; exact fS_tr f_g2 fn136_sz
    clear e
    exact f_g3
theorem fn141_sz {x : List Int} {g0 : rHp} : fS N g0 (fn141 x g0).2.2 := by
  have f_g0 : fS N g0 g0 := fS_refl
  show oP (fun h => fS N g0 h) (fn141 x g0)
  unfold fn141
  refine oP_dl ?_
  refine oP_dl ?_
  refine oP_let fun p0 e_p0 => ?_
  refine oP_let fun g1 e => ?_
  have f_g1 : fS N g0 g1 := by rw [e, e_p0]; exact fS_tr f_g0 fn114_sz
  clear e
  refine oP_ite (fun hb => ?_) (fun hb => ?_)
  · refine oP_dl ?_
    refine oP_let fun p1 e_p1 => ?_
    refine oP_let fun g2 e => ?_
    have f_g2 : fS N g0 g2 := by rw [e, e_p1]; exact fS_tr f_g1 fn106_sz
    clear e
    refine oP_ite (fun hb => ?_) (fun hb => ?_)
    · refine oP_let fun p2 e_p2 => ?_
      refine oP_let fun g3 e => ?_
      have f_g3 : fS N g0 g3 := by rw [e, e_p2]; exact fS_tr f_g2 fn115_sz
      clear e
      refine oP_ite (fun hb => ?_) (fun hb => ?_)
      · refine oP_let fun p3 e_p3 => ?_
        refine oP_let fun g4 e => ?_
        have f_g4 : fS N g0 g4 := by rw [e, e_p3]; exact fS_tr f_g3 fn137_sz
        clear e
        refine oP_ite (fun hb => ?_) (fun hb => ?_)
        · exact f_g4
        · exact f_g4
      · exact f_g3
    · refine oP_ite (fun hb => ?_) (fun hb => ?_)
      · refine oP_let fun p2 e_p2 => ?_
        refine oP_let fun g3 e => ?_
        have f_g3 : fS N g0 g3 := by rw [e, e_p2]; exact fS_tr f_g2 fn136_sz
        clear e
        refine oP_ite (fun hb => ?_) (fun hb => ?_)
        · exact f_g3
        · exact f_g3
      · refine oP_let fun p2 e_p2 => ?_
        refine oP_let fun g3 e => ?_
        have f_g3 : fS N g0 g3 := by rw [e, e_p2]; exact fS_tr f_g2 fn140_sz
        clear e
        refine oP_ite (fun hb => ?_) (fun hb => ?_)
        · exact f_g3
        · exact f_g3
  · refine oP_let fun p1 e_p1 => ?_
    refine oP_let fun g2 e => ?_
    have f_g2 : fS N g0 g2 := by rw [e, e_p1]; exact fS_tr f_g1 fn106_sz
    clear e
    refine oP_let fun p2 e_p2 => ?_
    refine oP_let fun g3 e => ?_
    have f_g3 : fS N g0 g3 := by rw [e, e_p2]; exact fS_tr f_g2 fn136_sz
    clear e
    exact f_g3
theorem fn155_sz {x : List Int} {g0 : rHp} : fS N g0 (fn155 x g0).2.2 := by
  have f_g0 : fS N g0 g0 := fS_refl
  show oP (fun h => fS N g0 h) (fn155 x g0)
  unfold fn155
  refine oP_dl ?_
  refine oP_dl ?_
  refine oP_dl ?_
  refine oP_dl ?_
  refine oP_dl ?_
  refine oP_let fun p0 e_p0 => ?_
  refine oP_let fun g1 e => ?_
  have f_g1 : fS N g0 g1 := by rw [e, e_p0]; exact fS_tr f_g0 fn103_sz
  clear e
  refine oP_let fun p1 e_p1 => ?_
  refine oP_let fun g2 e => ?_
  have f_g2 : fS N g0 g2 := by rw [e, e_p1]; exact fS_tr f_g1 fn154_sz
  clear e
  refine oP_ite (fun hb => ?_) (fun hb => ?_)
  · refine oP_let fun p2 e_p2 => ?_
    refine oP_let fun g3 e => ?_
    have f_g3 : fS N g0 g3 := by rw [e, e_p2]; exact fS_tr f_g2 fn138_sz
    clear e
    refine oP_ite (fun hb => ?_) (fun hb => ?_)
    · refine oP_let fun p3 e_p3 => ?_
      refine oP_let fun g4 e => ?_
      have f_g4 : fS N g0 g4 := by rw [e, e_p3]; exact fS_tr f_g3 fn139_sz
      clear e
      refine oP_ite (fun hb => ?_) (fun hb => ?_)
      · exact f_g4
      · exact f_g4
    · exact f_g3
  · exact f_g2
theorem fn156_sz {x : List Int} {g0 : rHp} : fS N g0 (fn156 x g0).2.2 := by
  have f_g0 : fS N g0 g0 := fS_refl
  show oP (fun h => fS N g0 h) (fn156 x g0)
  unfold fn156
  refine oP_dl ?_
  refine oP_dl ?_
  refine oP_dl ?_
  refine oP_dl ?_
  refine oP_dl ?_
  refine oP_dl ?_
  refine oP_dl ?_
  refine oP_let fun p0 e_p0 => ?_
  refine oP_let fun g1 e => ?_
  have f_g1 : fS N g0 g1 := by rw [e, e_p0]; exact fS_tr f_g0 fn115_sz
  clear e
  refine oP_ite (fun hb => ?_) (fun hb => ?_)
  · refine oP_dl ?_
    refine oP_ite (fun hb => ?_) (fun hb => ?_)
    · refine oP_let fun p1 e_p1 => ?_
      refine oP_let fun g2 e => ?_
      have f_g2 : fS N g0 g2 := by rw [e, e_p1]; exact fS_tr f_g1 fn103_sz
      clear e
      refine oP_let fun p2 e_p2 => ?_
      refine oP_let fun g3 e => ?_
      have f_g3 : fS N g0 g3 := by rw [e, e_p2]; exact fS_tr f_g2 fn120_sz
      clear e
      refine oP_dl ?_
      refine oP_let fun g4 e => ?_
      have f_g4 : fS N g0 g4 := by rw [e]; exact fS_up f_g3 (by decide)
      clear e
      refine oP_ite (fun hb => ?_) (fun hb => ?_)
      · refine oP_let fun p4 e_p4 => ?_
        refine oP_let fun g5 e => ?_
        have f_g5 : fS N g0 g5 := by rw [e, e_p4]; exact fS_tr f_g4 fn109_sz
        clear e
        exact f_g5
      · refine oP_let fun p4 e_p4 => ?_
        refine oP_let fun g5 e => ?_
        have f_g5 : fS N g0 g5 := by rw [e, e_p4]; exact fS_tr f_g4 fn117_sz
        clear e
        refine oP_ite (fun hb => ?_) (fun hb => ?_)
        · refine oP_let fun p5 e_p5 => ?_
          refine oP_let fun g6 e => ?_
          have f_g6 : fS N g0 g6 := by rw [e, e_p5]; exact fS_tr f_g5 fn109_sz
          clear e
          exact f_g6
        · refine oP_let fun p5 e_p5 => ?_
          refine oP_let fun g6 e => ?_
          have f_g6 : fS N g0 g6 := by rw [e, e_p5]; exact fS_tr f_g5 fn139_sz
          clear e
          refine oP_ite (fun hb => ?_) (fun hb => ?_)
          · refine oP_let fun p6 e_p6 => ?_
            refine oP_let fun g7 e => ?_
            have f_g7 : fS N g0 g7 := by rw [e, e_p6]; exact fS_tr f_g6 fn114_sz
            clear e
            refine oP_ite (fun hb => ?_) (fun hb => ?_)
            · refine oP_dl ?_
              refine oP_dl ?_
              refine oP_ite (fun hb => ?_) (fun hb => ?_)
              · refine oP_let fun g8 e => ?_
                have f_g8 : fS N g0 g8 := by rw [e]; exact fS_up f_g7 (by decide)
                clear e
                refine oP_let fun g9 e => ?_
                have f_g9 : fS N g0 g9 := by rw [e]; exact fS_up f_g8 (by decide)
                clear e
                refine oP_let fun p9 e_p9 => ?_
                refine oP_let fun g10 e => ?_
                have f_g10 : fS N g0 g10 := by rw [e, e_p9]; exact fS_tr f_g9 fn139_sz
                clear e
                refine oP_ite (fun hb => ?_) (fun hb => ?_)
                · refine oP_dl ?_
                  refine oP_dl ?_
                  refine oP_let fun g11 e => ?_
                  have f_g11 : fS N g0 g11 := by rw [e]; exact fS_up f_g10 (by decide)
                  clear e
                  exact f_g11
                · exact f_g10
              · refine oP_ite (fun hb => ?_) (fun hb => ?_)
                · refine oP_let fun g8 e => ?_
                  have f_g8 : fS N g0 g8 := by rw [e]; exact fS_up f_g7 (by decide)
                  clear e
                  refine oP_let fun g9 e => ?_
                  have f_g9 : fS N g0 g9 := by rw [e]; exact fS_up f_g8 (by decide)
                  clear e
                  refine oP_let fun p9 e_p9 => ?_
                  refine oP_let fun g10 e => ?_
                  have f_g10 : fS N g0 g10 := by rw [e, e_p9]; exact fS_tr f_g9 fn139_sz
                  clear e
                  refine oP_ite (fun hb => ?_) (fun hb => ?_)
                  · refine oP_dl ?_
                    refine oP_dl ?_
                    refine oP_let fun g11 e => ?_
                    have f_g11 : fS N g0 g11 := by rw [e]; exact fS_up f_g10 (by decide)
                    clear e
                    exact f_g11
                  · exact f_g10
                · refine oP_ite (fun hb => ?_) (fun hb => ?_)
                  · refine oP_let fun g8 e => ?_
                    have f_g8 : fS N g0 g8 := by rw [e]; exact fS_up f_g7 (by decide)
                    clear e
                    refine oP_let fun g9 e => ?_
                    have f_g9 : fS N g0 g9 := by rw [e]; exact fS_up f_g8 (by decide)
                    clear e
                    refine oP_let fun p9 e_p9 => ?_
                    refine oP_let fun g10 e => ?_
                    have f_g10 : fS N g0 g10 := by rw [e, e_p9]; exact fS_tr f_g9 fn139_sz
                    clear e
                    refine oP_ite (fun hb => ?_) (fun hb => ?_)
                    · refine oP_dl ?_
                      refine oP_dl ?_
                      refine oP_let fun g11 e => ?_
                      have f_g11 : fS N g0 g11 := by rw [e]; exact fS_up f_g10 (by decide)
                      clear e
                      exact f_g11
                    · exact f_g10
                  · refine oP_let fun p7 e_p7 => ?_
                    refine oP_let fun g8 e => ?_
                    have f_g8 : fS N g0 g8 := by rw [e, e_p7]; exact fS_tr f_g7 fn109_sz
                    clear e
                    exact f_g8
            · refine oP_dl ?_
              refine oP_let fun p7 e_p7 => ?_
              refine oP_let fun g8 e => ?_
              have f_g8 : fS N g0 g8 := by rw [e, e_p7]; exact fS_tr f_g7 fn109_sz
              clear e
              exact f_g8
          · exact f_g6
    · refine oP_let fun p1 e_p1 => ?_
      refine oP_let fun g2 e => ?_
      have f_g2 : fS N g0 g2 := by rw [e, e_p1]; exact fS_tr f_g1 fn109_sz
      clear e
      exact f_g2
  · exact f_g1
theorem fn145_sz {x : List Int} {g0 : rHp} : fS N g0 (fn145 x g0).2.2 := by
  have f_g0 : fS N g0 g0 := fS_refl
  refine zGoo_P (I := fun s => fS N g0 s.2.2) fS_zero (fun s hs => ?_) ?_
  · unfold en145
    refine oS_ite (fun hb => ?_) (fun hb => ?_)
    · refine oS_let fun g1 e => ?_
      have f_g1 : fS N g0 g1 := by rw [e]; exact hs
      clear e
      refine oS_dl ?_
      refine oS_dl ?_
      refine oS_dl ?_
      refine oS_dl ?_
      refine oS_dl ?_
      refine oS_dl ?_
      refine oS_ite (fun hb => ?_) (fun hb => ?_)
      · refine oS_let fun p1 e_p1 => ?_
        refine oS_let fun g2 e => ?_
        have f_g2 : fS N g0 g2 := by rw [e, e_p1]; exact fS_tr f_g1 fn114_sz
        clear e
        refine oS_ite (fun hb => ?_) (fun hb => ?_)
        · refine oS_dl ?_
          refine oS_let fun p2 e_p2 => ?_
          refine oS_let fun g3 e => ?_
          have f_g3 : fS N g0 g3 := by rw [e, e_p2]; exact fS_tr f_g2 fn109_sz
          clear e
          exact f_g3
        · refine oS_dl ?_
          refine oS_let fun p2 e_p2 => ?_
          refine oS_let fun g3 e => ?_
          have f_g3 : fS N g0 g3 := by rw [e, e_p2]; exact fS_tr f_g2 fn109_sz
          clear e
          exact f_g3
      · refine oS_let fun p1 e_p1 => ?_
        refine oS_let fun g2 e => ?_
        have f_g2 : fS N g0 g2 := by rw [e, e_p1]; exact fS_tr f_g1 fn142_sz
        clear e
        refine oS_ite (fun hb => ?_) (fun hb => ?_)
        · refine oS_ite (fun hb => ?_) (fun hb => ?_)
          · refine oS_let fun p2 e_p2 => ?_
            refine oS_let fun g3 e => ?_
            have f_g3 : fS N g0 g3 := by rw [e, e_p2]; exact fS_tr f_g2 fn114_sz
            clear e
            refine oS_ite (fun hb => ?_) (fun hb => ?_)
            · refine oS_dl ?_
              refine oS_dl ?_
              refine oS_ite (fun hb => ?_) (fun hb => ?_)
              · refine oS_let fun g4 e => ?_
                have f_g4 : fS N g0 g4 := by rw [e]; exact fS_up f_g3 (by decide)
                clear e
                refine oS_let fun p4 e_p4 => ?_
                refine oS_let fun g5 e => ?_
                have f_g5 : fS N g0 g5 := by rw [e, e_p4]; exact fS_tr f_g4 fn134_sz
                clear e
                refine oS_ite (fun hb => ?_) (fun hb => ?_)
                · exact f_g5
                · exact f_g5
              · refine oS_ite (fun hb => ?_) (fun hb => ?_)
                · refine oS_let fun g4 e => ?_
                  have f_g4 : fS N g0 g4 := by rw [e]; exact fS_up f_g3 (by decide)
                  clear e
                  exact f_g4
                · refine oS_let fun p3 e_p3 => ?_
                  refine oS_let fun g4 e => ?_
                  have f_g4 : fS N g0 g4 := by rw [e, e_p3]; exact fS_tr f_g3 fn109_sz
                  clear e
                  exact f_g4
            · refine oS_dl ?_
              refine oS_let fun p3 e_p3 => ?_
              refine oS_let fun g4 e => ?_
              have f_g4 : fS N g0 g4 := by rw [e, e_p3]; exact fS_tr f_g3 fn109_sz
              clear e
              exact f_g4
          · refine oS_let fun p2 e_p2 => ?_
            refine oS_let fun g3 e => ?_
            have f_g3 : fS N g0 g3 := by rw [e, e_p2]; exact fS_tr f_g2 fn143_sz
            clear e
            refine oS_ite (fun hb => ?_) (fun hb => ?_)
            · refine oS_let fun g4 e => ?_
              have f_g4 : fS N g0 g4 := by rw [e]; exact fS_up f_g3 (by decide)
              clear e
              refine oS_let fun p4 e_p4 => ?_
              refine oS_let fun g5 e => ?_
              have f_g5 : fS N g0 g5 := by rw [e, e_p4]; exact fS_tr f_g4 fn114_sz
              clear e
              refine oS_ite (fun hb => ?_) (fun hb => ?_)
              · refine oS_dl ?_
                refine oS_dl ?_
                refine oS_ite (fun hb => ?_) (fun hb => ?_)
                · refine oS_let fun g6 e => ?_
                  have f_g6 : fS N g0 g6 := by rw [e]; exact fS_up f_g5 (by decide)
                  clear e
                  refine oS_let fun p6 e_p6 => ?_
                  refine oS_let fun g7 e => ?_
                  have f_g7 : fS N g0 g7 := by rw [e, e_p6]; exact fS_tr f_g6 fn134_sz
                  clear e
                  refine oS_ite (fun hb => ?_) (fun hb => ?_)
                  · exact f_g7
                  · exact f_g7
                · refine oS_ite (fun hb => ?_) (fun hb => ?_)
                  · refine oS_let fun g6 e => ?_
                    have f_g6 : fS N g0 g6 := by rw [e]; exact fS_up f_g5 (by decide)
                    clear e
                    exact f_g6
                  · refine oS_let fun p5 e_p5 => ?_
                    refine oS_let fun g6 e => ?_
                    have f_g6 : fS N g0 g6 := by rw [e, e_p5]; exact fS_tr f_g5 fn109_sz
                    clear e
                    exact f_g6
              · refine oS_dl ?_
                refine oS_let fun p5 e_p5 => ?_
                refine oS_let fun g6 e => ?_
                have f_g6 : fS N g0 g6 := by rw [e, e_p5]; exact fS_tr f_g5 fn109_sz
                clear e
                exact f_g6
            · refine oS_let fun p3 e_p3 => ?_
              refine oS_let fun g4 e => ?_
              have f_g4 : fS N g0 g4 := by rw [e, e_p3]; exact fS_tr f_g3 fn114_sz
              clear e
              refine oS_ite (fun hb => ?_) (fun hb => ?_)
              · refine oS_dl ?_
                refine oS_dl ?_
                refine oS_ite (fun hb => ?_) (fun hb => ?_)
                · refine oS_let fun g5 e => ?_
                  have f_g5 : fS N g0 g5 := by rw [e]; exact fS_up f_g4 (by decide)
                  clear e
                  refine oS_let fun p5 e_p5 => ?_
                  refine oS_let fun g6 e => ?_
                  have f_g6 : fS N g0 g6 := by rw [e, e_p5]; exact fS_tr f_g5 fn134_sz
                  clear e
                  refine oS_ite (fun hb => ?_) (fun hb => ?_)
                  · exact f_g6
                  · exact f_g6
                · refine oS_ite (fun hb => ?_) (fun hb => ?_)
                  · refine oS_let fun g5 e => ?_
                    have f_g5 : fS N g0 g5 := by rw [e]; exact fS_up f_g4 (by decide)
                    clear e
                    exact f_g5
                  · refine oS_let fun p4 e_p4 => ?_
                    refine oS_let fun g5 e => ?_
                    have f_g5 : fS N g0 g5 := by rw [e, e_p4]; exact fS_tr f_g4 fn109_sz
                    clear e
                    exact f_g5
              · refine oS_dl ?_
                refine oS_let fun p4 e_p4 => ?_
                refine oS_let fun g5 e => ?_
                have f_g5 : fS N g0 g5 := by rw [e, e_p4]; exact fS_tr f_g4 fn109_sz
                clear e
                exact f_g5
        · exact f_g2
    · exact f_g0
  · unfold dn145
    refine oS_dl ?_
    refine oS_dl ?_
    refine oS_dl ?_
    refine oS_let fun p0 e_p0 => ?_
    refine oS_let fun g1 e => ?_
    have f_g1 : fS N g0 g1 := by rw [e, e_p0]; exact fS_tr f_g0 fn103_sz
    clear e
    refine oS_let fun p1 e_p1 => ?_
    refine oS_let fun g2 e => ?_
    have f_g2 : fS N g0 g2 := by rw [e, e_p1]; exact fS_tr f_g1 fn114_sz
    clear e
    refine oS_ite (fun hb => ?_) (fun hb => ?_)
    · refine oS_dl ?_
      refine oS_dl ?_
      refine oS_ite (fun hb => ?_) (fun hb => ?_)
      · refine oS_let fun g3 e => ?_
        have f_g3 : fS N g0 g3 := by rw [e]; exact fS_up f_g2 (by decide)
        clear e
        exact f_g3
      · refine oS_let fun p2 e_p2 => ?_
        refine oS_let fun g3 e => ?_
        have f_g3 : fS N g0 g3 := by rw [e, e_p2]; exact fS_tr f_g2 fn109_sz
        clear e
        exact f_g3
    · refine oS_dl ?_
      refine oS_let fun p2 e_p2 => ?_
      refine oS_let fun g3 e => ?_
      have f_g3 : fS N g0 g3 := by rw [e, e_p2]; exact fS_tr f_g2 fn109_sz
      clear e
      exact f_g3
theorem fn144_sz {x : List Int} {g0 : rHp} : fS N g0 (fn144 x g0).2.2 := by
  have f_g0 : fS N g0 g0 := fS_refl
  refine zGoo_P (I := fun s => fS N g0 s.2.2) fS_zero (fun s hs => ?_) ?_
  · unfold en144
    refine oS_ite (fun hb => ?_) (fun hb => ?_)
    · refine oS_let fun g1 e => ?_
      have f_g1 : fS N g0 g1 := by rw [e]; exact hs
      clear e
      refine oS_dl ?_
      refine oS_dl ?_
      refine oS_dl ?_
      refine oS_dl ?_
      refine oS_dl ?_
      refine oS_ite (fun hb => ?_) (fun hb => ?_)
      · refine oS_let fun p1 e_p1 => ?_
        refine oS_let fun g2 e => ?_
        have f_g2 : fS N g0 g2 := by rw [e, e_p1]; exact fS_tr f_g1 fn114_sz
        clear e
        refine oS_ite (fun hb => ?_) (fun hb => ?_)
        · refine oS_dl ?_
          refine oS_let fun p2 e_p2 => ?_
          refine oS_let fun g3 e => ?_
          have f_g3 : fS N g0 g3 := by rw [e, e_p2]; exact fS_tr f_g2 fn109_sz
          clear e
          exact f_g3
        · refine oS_dl ?_
          refine oS_let fun p2 e_p2 => ?_
          refine oS_let fun g3 e => ?_
          have f_g3 : fS N g0 g3 := by rw [e, e_p2]; exact fS_tr f_g2 fn109_sz
          clear e
          exact f_g3
      · refine oS_let fun p1 e_p1 => ?_
        refine oS_let fun g2 e => ?_
        have f_g2 : fS N g0 g2 := by rw [e, e_p1]; exact fS_tr f_g1 fn141_sz
        clear e
        refine oS_ite (fun hb => ?_) (fun hb => ?_)
        · refine oS_ite (fun hb => ?_) (fun hb => ?_)
          · refine oS_let fun p2 e_p2 => ?_
            refine oS_let fun g3 e => ?_
            have f_g3 : fS N g0 g3 := by rw [e, e_p2]; exact fS_tr f_g2 fn114_sz
            clear e
            refine oS_ite (fun hb => ?_) (fun hb => ?_)
            · refine oS_dl ?_
              refine oS_dl ?_
              refine oS_ite (fun hb => ?_) (fun hb => ?_)
              · refine oS_let fun g4 e => ?_
                have f_g4 : fS N g0 g4 := by rw [e]; exact fS_up f_g3 (by decide)
                clear e
                refine oS_let fun p4 e_p4 => ?_
                refine oS_let fun g5 e => ?_
                have f_g5 : fS N g0 g5 := by rw [e, e_p4]; exact fS_tr f_g4 fn133_sz
                clear e
                refine oS_ite (fun hb => ?_) (fun hb => ?_)
                · exact f_g5
                · exact f_g5
              · refine oS_ite (fun hb => ?_) (fun hb => ?_)
                · refine oS_let fun g4 e => ?_
                  have f_g4 : fS N g0 g4 := by rw [e]; exact fS_up f_g3 (by decide)
                  clear e
                  exact f_g4
                · refine oS_let fun p3 e_p3 => ?_
                  refine oS_let fun g4 e => ?_
                  have f_g4 : fS N g0 g4 := by rw [e, e_p3]; exact fS_tr f_g3 fn109_sz
                  clear e
                  exact f_g4
            · refine oS_dl ?_
              refine oS_let fun p3 e_p3 => ?_
              refine oS_let fun g4 e => ?_
              have f_g4 : fS N g0 g4 := by rw [e, e_p3]; exact fS_tr f_g3 fn109_sz
              clear e
              exact f_g4
          · refine oS_let fun p2 e_p2 => ?_
            refine oS_let fun g3 e => ?_
            have f_g3 : fS N g0 g3 := by rw [e, e_p2]; exact fS_tr f_g2 fn143_sz
            clear e
            refine oS_ite (fun hb => ?_) (fun hb => ?_)
            · refine oS_let fun g4 e => ?_
              have f_g4 : fS N g0 g4 := by rw [e]; exact fS_up f_g3 (by decide)
              clear e
              refine oS_let fun p4 e_p4 => ?_
              refine oS_let fun g5 e => ?_
              have f_g5 : fS N g0 g5 := by rw [e, e_p4]; exact fS_tr f_g4 fn114_sz
              clear e
              refine oS_ite (fun hb => ?_) (fun hb => ?_)
              · refine oS_dl ?_
                refine oS_dl ?_
                refine oS_ite (fun hb => ?_) (fun hb => ?_)
                · refine oS_let fun g6 e => ?_
                  have f_g6 : fS N g0 g6 := by rw [e]; exact fS_up f_g5 (by decide)
                  clear e
                  refine oS_let fun p6 e_p6 => ?_
                  refine oS_let fun g7 e => ?_
                  have f_g7 : fS N g0 g7 := by rw [e, e_p6]; exact fS_tr f_g6 fn133_sz
                  clear e
                  refine oS_ite (fun hb => ?_) (fun hb => ?_)
                  · exact f_g7
                  · exact f_g7
                · refine oS_ite (fun hb => ?_) (fun hb => ?_)
                  · refine oS_let fun g6 e => ?_
                    have f_g6 : fS N g0 g6 := by rw [e]; exact fS_up f_g5 (by decide)
                    clear e
                    exact f_g6
                  · refine oS_let fun p5 e_p5 => ?_
                    refine oS_let fun g6 e => ?_
                    have f_g6 : fS N g0 g6 := by rw [e, e_p5]; exact fS_tr f_g5 fn109_sz
                    clear e
                    exact f_g6
              · refine oS_dl ?_
                refine oS_let fun p5 e_p5 => ?_
                refine oS_let fun g6 e => ?_
                have f_g6 : fS N g0 g6 := by rw [e, e_p5]; exact fS_tr f_g5 fn109_sz
                clear e
                exact f_g6
            · refine oS_let fun p3 e_p3 => ?_
              refine oS_let fun g4 e => ?_
              have f_g4 : fS N g0 g4 := by rw [e, e_p3]; exact fS_tr f_g3 fn114_sz
              clear e
              refine oS_ite (fun hb => ?_) (fun hb => ?_)
              · refine oS_dl ?_
                refine oS_dl ?_
                refine oS_ite (fun hb => ?_) (fun hb => ?_)
                · refine oS_let fun g5 e => ?_
                  have f_g5 : fS N g0 g5 := by rw [e]; exact fS_up f_g4 (by decide)
                  clear e
                  refine oS_let fun p5 e_p5 => ?_
                  refine oS_let fun g6 e => ?_
                  have f_g6 : fS N g0 g6 := by rw [e, e_p5]; exact fS_tr f_g5 fn133_sz
                  clear e
                  refine oS_ite (fun hb => ?_) (fun hb => ?_)
                  · exact f_g6
                  · exact f_g6
                · refine oS_ite (fun hb => ?_) (fun hb => ?_)
                  · refine oS_let fun g5 e => ?_
                    have f_g5 : fS N g0 g5 := by rw [e]; exact fS_up f_g4 (by decide)
                    clear e
                    exact f_g5
                  · refine oS_let fun p4 e_p4 => ?_
                    refine oS_let fun g5 e => ?_
                    have f_g5 : fS N g0 g5 := by rw [e, e_p4]; exact fS_tr f_g4 fn109_sz
                    clear e
                    exact f_g5
              · refine oS_dl ?_
                refine oS_let fun p4 e_p4 => ?_
                refine oS_let fun g5 e => ?_
                have f_g5 : fS N g0 g5 := by rw [e, e_p4]; exact fS_tr f_g4 fn109_sz
                clear e
                exact f_g5
        · exact f_g2
    · exact f_g0
  · unfold dn144
    refine oS_dl ?_
    refine oS_dl ?_
    refine oS_let fun p0 e_p0 => ?_
    refine oS_let fun g1 e => ?_
    have f_g1 : fS N g0 g1 := by rw [e, e_p0]; exact fS_tr f_g0 fn102_sz
    clear e
    refine oS_let fun p1 e_p1 => ?_
    refine oS_let fun g2 e => ?_
    have f_g2 : fS N g0 g2 := by rw [e, e_p1]; exact fS_tr f_g1 fn114_sz
    clear e
    refine oS_ite (fun hb => ?_) (fun hb => ?_)
    · refine oS_dl ?_
      refine oS_dl ?_
      refine oS_ite (fun hb => ?_) (fun hb => ?_)
      · refine oS_let fun g3 e => ?_
        have f_g3 : fS N g0 g3 := by rw [e]; exact fS_up f_g2 (by decide)
        clear e
        exact f_g3
      · refine oS_let fun p2 e_p2 => ?_
        refine oS_let fun g3 e => ?_
        have f_g3 : fS N g0 g3 := by rw [e, e_p2]; exact fS_tr f_g2 fn109_sz
        clear e
        exact f_g3
    · refine oS_dl ?_
      refine oS_let fun p2 e_p2 => ?_
      refine oS_let fun g3 e => ?_
      have f_g3 : fS N g0 g3 := by rw [e, e_p2]; exact fS_tr f_g2 fn109_sz
      clear e
      exact f_g3
theorem fn157_sz {x : List Int} {g0 : rHp} : fS N g0 (fn157 x g0).2.2 := by
  have f_g0 : fS N g0 g0 := fS_refl
  show oP (fun h => fS N g0 h) (fn157 x g0)
  unfold fn157
  refine oP_dl ?_
  refine oP_dl ?_
  refine oP_dl ?_
  refine oP_let fun p0 e_p0 => ?_
  refine oP_let fun g1 e => ?_
  have f_g1 : fS N g0 g1 := by rw [e, e_p0]; exact fS_tr f_g0 fn114_sz
  clear e
  refine oP_ite (fun hb => ?_) (fun hb => ?_)
  · refine oP_dl ?_
    refine oP_dl ?_
    refine oP_ite (fun hb => ?_) (fun hb => ?_)
    · refine oP_let fun p1 e_p1 => ?_
      refine oP_let fun g2 e => ?_
      have f_g2 : fS N g0 g2 := by rw [e, e_p1]; exact fS_tr f_g1 fn106_sz
      clear e
      refine oP_ite (fun hb => ?_) (fun hb => ?_)
      · refine oP_let fun p2 e_p2 => ?_
        refine oP_let fun g3 e => ?_
        have f_g3 : fS N g0 g3 := by rw [e, e_p2]; exact fS_tr f_g2 fn115_sz
        clear e
        refine oP_ite (fun hb => ?_) (fun hb => ?_)
        · refine oP_let fun p3 e_p3 => ?_
          refine oP_let fun g4 e => ?_
          have f_g4 : fS N g0 g4 := by rw [e, e_p3]; exact fS_tr f_g3 fn114_sz
          clear e
          refine oP_ite (fun hb => ?_) (fun hb => ?_)
          · refine oP_dl ?_
            refine oP_let fun p4 e_p4 => ?_
            refine oP_let fun g5 e => ?_
            have f_g5 : fS N g0 g5 := by rw [e, e_p4]; exact fS_tr f_g4 fn105_sz
            clear e
            refine oP_ite (fun hb => ?_) (fun hb => ?_)
            · refine oP_dl ?_
              refine oP_let fun p5 e_p5 => ?_
              refine oP_let fun g6 e => ?_
              have f_g6 : fS N g0 g6 := by rw [e, e_p5]; exact fS_tr f_g5 fn156_sz
              clear e
              refine oP_ite (fun hb => ?_) (fun hb => ?_)
              · exact f_g6
              · exact f_g6
            · refine oP_dl ?_
              refine oP_let fun p5 e_p5 => ?_
              refine oP_let fun g6 e => ?_
              have f_g6 : fS N g0 g6 := by rw [e, e_p5]; exact fS_tr f_g5 fn155_sz
              clear e
              refine oP_ite (fun hb => ?_) (fun hb => ?_)
              · exact f_g6
              · exact f_g6
          · refine oP_let fun p4 e_p4 => ?_
            refine oP_let fun g5 e => ?_
            have f_g5 : fS N g0 g5 := by rw [e, e_p4]; exact fS_tr f_g4 fn105_sz
            clear e
            refine oP_dl ?_
            refine oP_let fun p5 e_p5 => ?_
            refine oP_let fun g6 e => ?_
            have f_g6 : fS N g0 g6 := by rw [e, e_p5]; exact fS_tr f_g5 fn155_sz
            clear e
            exact f_g6
        · exact f_g3
      · refine oP_let fun p2 e_p2 => ?_
        refine oP_let fun g3 e => ?_
        have f_g3 : fS N g0 g3 := by rw [e, e_p2]; exact fS_tr f_g2 fn105_sz
        clear e
        refine oP_ite (fun hb => ?_) (fun hb => ?_)
        · refine oP_let fun p3 e_p3 => ?_
          refine oP_let fun g4 e => ?_
          have f_g4 : fS N g0 g4 := by rw [e, e_p3]; exact fS_tr f_g3 fn115_sz
          clear e
          refine oP_ite (fun hb => ?_) (fun hb => ?_)
          · refine oP_let fun p4 e_p4 => ?_
            refine oP_let fun g5 e => ?_
            have f_g5 : fS N g0 g5 := by rw [e, e_p4]; exact fS_tr f_g4 fn114_sz
            clear e
            refine oP_ite (fun hb => ?_) (fun hb => ?_)
            · refine oP_dl ?_
              refine oP_ite (fun hb => ?_) (fun hb => ?_)
              · refine oP_let fun p5 e_p5 => ?_
                refine oP_let fun g6 e => ?_
                have f_g6 : fS N g0 g6 := by rw [e, e_p5]; exact fS_tr f_g5 fn103_sz
                clear e
                refine oP_dl ?_
                refine oP_let fun p6 e_p6 => ?_
                refine oP_let fun g7 e => ?_
                have f_g7 : fS N g0 g7 := by rw [e, e_p6]; exact fS_tr f_g6 fn135_sz
                clear e
                refine oP_ite (fun hb => ?_) (fun hb => ?_)
                · refine oP_let fun p7 e_p7 => ?_
                  refine oP_let fun g8 e => ?_
                  have f_g8 : fS N g0 g8 := by rw [e, e_p7]; exact fS_tr f_g7 fn154_sz
                  clear e
                  refine oP_ite (fun hb => ?_) (fun hb => ?_)
                  · refine oP_let fun p8 e_p8 => ?_
                    refine oP_let fun g9 e => ?_
                    have f_g9 : fS N g0 g9 := by rw [e, e_p8]; exact fS_tr f_g8 fn139_sz
                    clear e
                    refine oP_ite (fun hb => ?_) (fun hb => ?_)
                    · exact f_g9
                    · exact f_g9
                  · exact f_g8
                · exact f_g7
              · refine oP_let fun p5 e_p5 => ?_
                refine oP_let fun g6 e => ?_
                have f_g6 : fS N g0 g6 := by rw [e, e_p5]; exact fS_tr f_g5 fn145_sz
                clear e
                refine oP_ite (fun hb => ?_) (fun hb => ?_)
                · exact f_g6
                · exact f_g6
            · refine oP_let fun p5 e_p5 => ?_
              refine oP_let fun g6 e => ?_
              have f_g6 : fS N g0 g6 := by rw [e, e_p5]; exact fS_tr f_g5 fn103_sz
              clear e
              refine oP_dl ?_
              refine oP_let fun p6 e_p6 => ?_
              refine oP_let fun g7 e => ?_
              have f_g7 : fS N g0 g7 := by rw [e, e_p6]; exact fS_tr f_g6 fn135_sz
              clear e
              refine oP_ite (fun hb => ?_) (fun hb => ?_)
              · refine oP_let fun p7 e_p7 => ?_
                refine oP_let fun g8 e => ?_
                have f_g8 : fS N g0 g8 := by rw [e, e_p7]; exact fS_tr f_g7 fn154_sz
                clear e
                exact f_g8
              · exact f_g7
          · exact f_g4
        · refine oP_let fun p3 e_p3 => ?_
          refine oP_let fun g4 e => ?_
          have f_g4 : fS N g0 g4 := by rw [e, e_p3]; exact fS_tr f_g3 fn107_sz
          clear e
          refine oP_ite (fun hb => ?_) (fun hb => ?_)
          · refine oP_let fun p4 e_p4 => ?_
            refine oP_let fun g5 e => ?_
            have f_g5 : fS N g0 g5 := by rw [e, e_p4]; exact fS_tr f_g4 fn116_sz
            clear e
            refine oP_ite (fun hb => ?_) (fun hb => ?_)
            · refine oP_let fun p5 e_p5 => ?_
              refine oP_let fun g6 e => ?_
              have f_g6 : fS N g0 g6 := by rw [e, e_p5]; exact fS_tr f_g5 fn103_sz
              clear e
              refine oP_dl ?_
              refine oP_let fun p6 e_p6 => ?_
              refine oP_let fun g7 e => ?_
              have f_g7 : fS N g0 g7 := by rw [e, e_p6]; exact fS_tr f_g6 fn104_sz
              clear e
              refine oP_let fun p7 e_p7 => ?_
              refine oP_let fun g8 e => ?_
              have f_g8 : fS N g0 g8 := by rw [e, e_p7]; exact fS_tr f_g7 fn154_sz
              clear e
              refine oP_ite (fun hb => ?_) (fun hb => ?_)
              · refine oP_let fun p8 e_p8 => ?_
                refine oP_let fun g9 e => ?_
                have f_g9 : fS N g0 g9 := by rw [e, e_p8]; exact fS_tr f_g8 fn139_sz
                clear e
                refine oP_ite (fun hb => ?_) (fun hb => ?_)
                · exact f_g9
                · exact f_g9
              · exact f_g8
            · exact f_g5
          · refine oP_ite (fun hb => ?_) (fun hb => ?_)
            · refine oP_let fun p4 e_p4 => ?_
              refine oP_let fun g5 e => ?_
              have f_g5 : fS N g0 g5 := by rw [e, e_p4]; exact fS_tr f_g4 fn116_sz
              clear e
              refine oP_ite (fun hb => ?_) (fun hb => ?_)
              · refine oP_let fun p5 e_p5 => ?_
                refine oP_let fun g6 e => ?_
                have f_g6 : fS N g0 g6 := by rw [e, e_p5]; exact fS_tr f_g5 fn103_sz
                clear e
                refine oP_dl ?_
                refine oP_let fun p6 e_p6 => ?_
                refine oP_let fun g7 e => ?_
                have f_g7 : fS N g0 g7 := by rw [e, e_p6]; exact fS_tr f_g6 fn104_sz
                clear e
                refine oP_let fun p7 e_p7 => ?_
                refine oP_let fun g8 e => ?_
                have f_g8 : fS N g0 g8 := by rw [e, e_p7]; exact fS_tr f_g7 fn154_sz
                clear e
                refine oP_ite (fun hb => ?_) (fun hb => ?_)
                · refine oP_let fun p8 e_p8 => ?_
                  refine oP_let fun g9 e => ?_
                  have f_g9 : fS N g0 g9 := by rw [e, e_p8]; exact fS_tr f_g8 fn139_sz
                  clear e
                  refine oP_ite (fun hb => ?_) (fun hb => ?_)
                  · exact f_g9
                  · exact f_g9
                · exact f_g8
              · exact f_g5
            · refine oP_let fun p4 e_p4 => ?_
              refine oP_let fun g5 e => ?_
              have f_g5 : fS N g0 g5 := by rw [e, e_p4]; exact fS_tr f_g4 fn109_sz
              clear e
              exact f_g5
    · refine oP_let fun g2 e => ?_
      have f_g2 : fS N g0 g2 := by rw [e]; exact fS_up f_g1 (by decide)
      clear e
      refine oP_let fun p2 e_p2 => ?_
      refine oP_let fun g3 e => ?_
      have f_g3 : fS N g0 g3 := by rw [e, e_p2]; exact fS_tr f_g2 fn114_sz
      clear e
      refine oP_ite (fun hb => ?_) (fun hb => ?_)
      · refine oP_dl ?_
        refine oP_dl ?_
        refine oP_let fun p3 e_p3 => ?_
        refine oP_let fun g4 e => ?_
        have f_g4 : fS N g0 g4 := by rw [e, e_p3]; exact fS_tr f_g3 fn105_sz
        clear e
        refine oP_ite (fun hb => ?_) (fun hb => ?_)
        · refine oP_let fun p4 e_p4 => ?_
          refine oP_let fun g5 e => ?_
          have f_g5 : fS N g0 g5 := by rw [e, e_p4]; exact fS_tr f_g4 fn115_sz
          clear e
          refine oP_ite (fun hb => ?_) (fun hb => ?_)
          · refine oP_let fun p5 e_p5 => ?_
            refine oP_let fun g6 e => ?_
            have f_g6 : fS N g0 g6 := by rw [e, e_p5]; exact fS_tr f_g5 fn145_sz
            clear e
            refine oP_ite (fun hb => ?_) (fun hb => ?_)
            · exact f_g6
            · exact f_g6
          · exact f_g5
        · refine oP_let fun p4 e_p4 => ?_
          refine oP_let fun g5 e => ?_
          have f_g5 : fS N g0 g5 := by rw [e, e_p4]; exact fS_tr f_g4 fn109_sz
          clear e
          exact f_g5
      · refine oP_dl ?_
        refine oP_let fun p3 e_p3 => ?_
        refine oP_let fun g4 e => ?_
        have f_g4 : fS N g0 g4 := by rw [e, e_p3]; exact fS_tr f_g3 fn105_sz
        clear e
        refine oP_let fun p4 e_p4 => ?_
        refine oP_let fun g5 e => ?_
        have f_g5 : fS N g0 g5 := by rw [e, e_p4]; exact fS_tr f_g4 fn109_sz
        clear e
        exact f_g5
  · refine oP_dl ?_
    refine oP_let fun p1 e_p1 => ?_
    refine oP_let fun g2 e => ?_
    have f_g2 : fS N g0 g2 := by rw [e, e_p1]; exact fS_tr f_g1 fn106_sz
    clear e
    refine oP_let fun p2 e_p2 => ?_
    refine oP_let fun g3 e => ?_
    have f_g3 : fS N g0 g3 := by rw [e, e_p2]; exact fS_tr f_g2 fn105_sz
    clear e
    refine oP_let fun p3 e_p3 => ?_
    refine oP_let fun g4 e => ?_
    have f_g4 : fS N g0 g4 := by rw [e, e_p3]; exact fS_tr f_g3 fn107_sz
    clear e
    refine oP_let fun p4 e_p4 => ?_
    refine oP_let fun g5 e => ?_
    have f_g5 : fS N g0 g5 := by rw [e, e_p4]; exact fS_tr f_g4 fn109_sz
    clear e
    exact f_g5
theorem fn146_sz {x : List Int} {g0 : rHp} : fS N g0 (fn146 x g0).2.2 := by
  have f_g0 : fS N g0 g0 := fS_refl
  show oP (fun h => fS N g0 h) (fn146 x g0)
  unfold fn146
  refine oP_dl ?_
  refine oP_dl ?_
  refine oP_let fun p0 e_p0 => ?_
  refine oP_let fun g1 e => ?_
  have f_g1 : fS N g0 g1 := by rw [e, e_p0]; exact fS_tr f_g0 fn110_sz
  clear e
  refine oP_let fun g2 e => ?_
  have f_g2 : fS N g0 g2 := by rw [e]; exact fS_up f_g1 (by decide)
  clear e
  refine oP_let fun g3 e => ?_
  have f_g3 : fS N g0 g3 := by rw [e]; exact fS_up f_g2 (by decide)
  clear e
  refine oP_let fun p3 e_p3 => ?_
  refine oP_let fun g4 e => ?_
  have f_g4 : fS N g0 g4 := by rw [e, e_p3]; exact fS_tr f_g3 fn114_sz
  clear e
  refine oP_ite (fun hb => ?_) (fun hb => ?_)
  · refine oP_dl ?_
    refine oP_dl ?_
    refine oP_let fun p4 e_p4 => ?_
    refine oP_let fun g5 e => ?_
    have f_g5 : fS N g0 g5 := by rw [e, e_p4]; exact fS_tr f_g4 fn105_sz
    clear e
    refine oP_ite (fun hb => ?_) (fun hb => ?_)
    · refine oP_let fun p5 e_p5 => ?_
      refine oP_let fun g6 e => ?_
      have f_g6 : fS N g0 g6 := by rw [e, e_p5]; exact fS_tr f_g5 fn115_sz
      clear e
      refine oP_ite (fun hb => ?_) (fun hb => ?_)
      · refine oP_let fun p6 e_p6 => ?_
        refine oP_let fun g7 e => ?_
        have f_g7 : fS N g0 g7 := by rw [e, e_p6]; exact fS_tr f_g6 fn144_sz
        clear e
        refine oP_ite (fun hb => ?_) (fun hb => ?_)
        · exact f_g7
        · exact f_g7
      · exact f_g6
    · refine oP_let fun p5 e_p5 => ?_
      refine oP_let fun g6 e => ?_
      have f_g6 : fS N g0 g6 := by rw [e, e_p5]; exact fS_tr f_g5 fn109_sz
      clear e
      exact f_g6
  · refine oP_dl ?_
    refine oP_let fun p4 e_p4 => ?_
    refine oP_let fun g5 e => ?_
    have f_g5 : fS N g0 g5 := by rw [e, e_p4]; exact fS_tr f_g4 fn105_sz
    clear e
    refine oP_let fun p5 e_p5 => ?_
    refine oP_let fun g6 e => ?_
    have f_g6 : fS N g0 g6 := by rw [e, e_p5]; exact fS_tr f_g5 fn109_sz
    clear e
    exact f_g6
theorem fn158_sz {x : List Int} {g0 : rHp} : fS N g0 (fn158 x g0).2.2 := by
  have f_g0 : fS N g0 g0 := fS_refl
  refine zGoo_P (I := fun s => fS N g0 s.2.2) fS_zero (fun s hs => ?_) ?_
  · unfold en158
    refine oS_ite (fun hb => ?_) (fun hb => ?_)
    · refine oS_let fun g1 e => ?_
      have f_g1 : fS N g0 g1 := by rw [e]; exact hs
      clear e
      refine oS_dl ?_
      refine oS_dl ?_
      refine oS_dl ?_
      refine oS_dl ?_
      refine oS_ite (fun hb => ?_) (fun hb => ?_)
      · refine oS_let fun p1 e_p1 => ?_
        refine oS_let fun g2 e => ?_
        have f_g2 : fS N g0 g2 := by rw [e, e_p1]; exact fS_tr f_g1 fn114_sz
        clear e
        refine oS_ite (fun hb => ?_) (fun hb => ?_)
        · refine oS_dl ?_
          refine oS_let fun p2 e_p2 => ?_
          refine oS_let fun g3 e => ?_
          have f_g3 : fS N g0 g3 := by rw [e, e_p2]; exact fS_tr f_g2 fn109_sz
          clear e
          exact f_g3
        · refine oS_dl ?_
          refine oS_let fun p2 e_p2 => ?_
          refine oS_let fun g3 e => ?_
          have f_g3 : fS N g0 g3 := by rw [e, e_p2]; exact fS_tr f_g2 fn109_sz
          clear e
          exact f_g3
      · refine oS_let fun p1 e_p1 => ?_
        refine oS_let fun g2 e => ?_
        have f_g2 : fS N g0 g2 := by rw [e, e_p1]; exact fS_tr f_g1 fn132_sz
        clear e
        refine oS_let fun p2 e_p2 => ?_
        refine oS_let fun g3 e => ?_
        have f_g3 : fS N g0 g3 := by rw [e, e_p2]; exact fS_tr f_g2 fn157_sz
        clear e
        refine oS_ite (fun hb => ?_) (fun hb => ?_)
        · refine oS_ite (fun hb => ?_) (fun hb => ?_)
          · refine oS_ite (fun hb => ?_) (fun hb => ?_)
            · refine oS_let fun g4 e => ?_
              have f_g4 : fS N g0 g4 := by rw [e]; exact fS_up f_g3 (by decide)
              clear e
              refine oS_let fun p4 e_p4 => ?_
              refine oS_let fun g5 e => ?_
              have f_g5 : fS N g0 g5 := by rw [e, e_p4]; exact fS_tr f_g4 fn114_sz
              clear e
              refine oS_ite (fun hb => ?_) (fun hb => ?_)
              · refine oS_dl ?_
                refine oS_dl ?_
                refine oS_ite (fun hb => ?_) (fun hb => ?_)
                · refine oS_ite (fun hb => ?_) (fun hb => ?_)
                  · refine oS_let fun g6 e => ?_
                    have f_g6 : fS N g0 g6 := by rw [e]; exact fS_up f_g5 (by decide)
                    clear e
                    exact f_g6
                  · refine oS_let fun p5 e_p5 => ?_
                    refine oS_let fun g6 e => ?_
                    have f_g6 : fS N g0 g6 := by rw [e, e_p5]; exact fS_tr f_g5 fn109_sz
                    clear e
                    exact f_g6
                · refine oS_let fun g6 e => ?_
                  have f_g6 : fS N g0 g6 := by rw [e]; exact fS_up f_g5 (by decide)
                  clear e
                  refine oS_let fun p6 e_p6 => ?_
                  refine oS_let fun g7 e => ?_
                  have f_g7 : fS N g0 g7 := by rw [e, e_p6]; exact fS_tr f_g6 fn153_sz
                  clear e
                  refine oS_ite (fun hb => ?_) (fun hb => ?_)
                  · refine oS_let fun p7 e_p7 => ?_
                    refine oS_let fun g8 e => ?_
                    have f_g8 : fS N g0 g8 := by rw [e, e_p7]; exact fS_tr f_g7 fn152_sz
                    clear e
                    refine oS_ite (fun hb => ?_) (fun hb => ?_)
                    · exact f_g8
                    · exact f_g8
                  · exact f_g7
              · refine oS_dl ?_
                refine oS_let fun p5 e_p5 => ?_
                refine oS_let fun g6 e => ?_
                have f_g6 : fS N g0 g6 := by rw [e, e_p5]; exact fS_tr f_g5 fn109_sz
                clear e
                exact f_g6
            · refine oS_let fun g4 e => ?_
              have f_g4 : fS N g0 g4 := by rw [e]; exact fS_up f_g3 (by decide)
              clear e
              refine oS_let fun p4 e_p4 => ?_
              refine oS_let fun g5 e => ?_
              have f_g5 : fS N g0 g5 := by rw [e, e_p4]; exact fS_tr f_g4 fn114_sz
              clear e
              refine oS_ite (fun hb => ?_) (fun hb => ?_)
              · refine oS_dl ?_
                refine oS_dl ?_
                refine oS_ite (fun hb => ?_) (fun hb => ?_)
                · refine oS_ite (fun hb => ?_) (fun hb => ?_)
                  · refine oS_let fun g6 e => ?_
                    have f_g6 : fS N g0 g6 := by rw [e]; exact fS_up f_g5 (by decide)
                    clear e
                    exact f_g6
                  · refine oS_let fun p5 e_p5 => ?_
                    refine oS_let fun g6 e => ?_
                    have f_g6 : fS N g0 g6 := by rw [e, e_p5]; exact fS_tr f_g5 fn109_sz
                    clear e
                    exact f_g6
                · refine oS_let fun g6 e => ?_
                  have f_g6 : fS N g0 g6 := by rw [e]; exact fS_up f_g5 (by decide)
                  clear e
                  refine oS_let fun p6 e_p6 => ?_
                  refine oS_let fun g7 e => ?_
                  have f_g7 : fS N g0 g7 := by rw [e, e_p6]; exact fS_tr f_g6 fn153_sz
                  clear e
                  refine oS_ite (fun hb => ?_) (fun hb => ?_)
                  · refine oS_let fun p7 e_p7 => ?_
                    refine oS_let fun g8 e => ?_
                    have f_g8 : fS N g0 g8 := by rw [e, e_p7]; exact fS_tr f_g7 fn152_sz
                    clear e
                    refine oS_ite (fun hb => ?_) (fun hb => ?_)
                    · exact f_g8
                    · exact f_g8
                  · exact f_g7
              · refine oS_dl ?_
                refine oS_let fun p5 e_p5 => ?_
                refine oS_let fun g6 e => ?_
                have f_g6 : fS N g0 g6 := by rw [e, e_p5]; exact fS_tr f_g5 fn109_sz
                clear e
                exact f_g6
          · refine oS_dl ?_
            refine oS_let fun g4 e => ?_
            have f_g4 : fS N g0 g4 := by rw [e]; exact fS_up f_g3 (by decide)
            clear e
            refine oS_ite (fun hb => ?_) (fun hb => ?_)
            · refine oS_let fun p4 e_p4 => ?_
              refine oS_let fun g5 e => ?_
              have f_g5 : fS N g0 g5 := by rw [e, e_p4]; exact fS_tr f_g4 fn114_sz
              clear e
              refine oS_ite (fun hb => ?_) (fun hb => ?_)
              · refine oS_dl ?_
                refine oS_dl ?_
                refine oS_ite (fun hb => ?_) (fun hb => ?_)
                · refine oS_ite (fun hb => ?_) (fun hb => ?_)
                  · refine oS_let fun g6 e => ?_
                    have f_g6 : fS N g0 g6 := by rw [e]; exact fS_up f_g5 (by decide)
                    clear e
                    exact f_g6
                  · refine oS_let fun p5 e_p5 => ?_
                    refine oS_let fun g6 e => ?_
                    have f_g6 : fS N g0 g6 := by rw [e, e_p5]; exact fS_tr f_g5 fn109_sz
                    clear e
                    exact f_g6
                · refine oS_let fun g6 e => ?_
                  have f_g6 : fS N g0 g6 := by rw [e]; exact fS_up f_g5 (by decide)
                  clear e
                  refine oS_let fun p6 e_p6 => ?_
                  refine oS_let fun g7 e => ?_
                  have f_g7 : fS N g0 g7 := by rw [e, e_p6]; exact fS_tr f_g6 fn153_sz
                  clear e
                  refine oS_ite (fun hb => ?_) (fun hb => ?_)
                  · refine oS_let fun p7 e_p7 => ?_
                    refine oS_let fun g8 e => ?_
                    have f_g8 : fS N g0 g8 := by rw [e, e_p7]; exact fS_tr f_g7 fn152_sz
                    clear e
                    refine oS_ite (fun hb => ?_) (fun hb => ?_)
                    · exact f_g8
                    · exact f_g8
                  · exact f_g7
              · refine oS_dl ?_
                refine oS_let fun p5 e_p5 => ?_
                refine oS_let fun g6 e => ?_
                have f_g6 : fS N g0 g6 := by rw [e, e_p5]; exact fS_tr f_g5 fn109_sz
                clear e
                exact f_g6
            · refine oS_let fun g5 e => ?_
              have f_g5 : fS N g0 g5 := by rw [e]; exact fS_up f_g4 (by decide)
              clear e
              refine oS_let fun g6 e => ?_
              have f_g6 : fS N g0 g6 := by rw [e]; exact fS_up f_g5 (by decide)
              clear e
              refine oS_let fun p6 e_p6 => ?_
              refine oS_let fun g7 e => ?_
              have f_g7 : fS N g0 g7 := by rw [e, e_p6]; exact fS_tr f_g6 fn114_sz
              clear e
              refine oS_ite (fun hb => ?_) (fun hb => ?_)
              · refine oS_dl ?_
                refine oS_dl ?_
                refine oS_ite (fun hb => ?_) (fun hb => ?_)
                · refine oS_ite (fun hb => ?_) (fun hb => ?_)
                  · refine oS_let fun g8 e => ?_
                    have f_g8 : fS N g0 g8 := by rw [e]; exact fS_up f_g7 (by decide)
                    clear e
                    exact f_g8
                  · refine oS_let fun p7 e_p7 => ?_
                    refine oS_let fun g8 e => ?_
                    have f_g8 : fS N g0 g8 := by rw [e, e_p7]; exact fS_tr f_g7 fn109_sz
                    clear e
                    exact f_g8
                · refine oS_let fun g8 e => ?_
                  have f_g8 : fS N g0 g8 := by rw [e]; exact fS_up f_g7 (by decide)
                  clear e
                  refine oS_let fun p8 e_p8 => ?_
                  refine oS_let fun g9 e => ?_
                  have f_g9 : fS N g0 g9 := by rw [e, e_p8]; exact fS_tr f_g8 fn153_sz
                  clear e
                  refine oS_ite (fun hb => ?_) (fun hb => ?_)
                  · refine oS_let fun p9 e_p9 => ?_
                    refine oS_let fun g10 e => ?_
                    have f_g10 : fS N g0 g10 := by rw [e, e_p9]; exact fS_tr f_g9 fn152_sz
                    clear e
                    refine oS_ite (fun hb => ?_) (fun hb => ?_)
                    · exact f_g10
                    · exact f_g10
                  · exact f_g9
              · refine oS_dl ?_
                refine oS_let fun p7 e_p7 => ?_
                refine oS_let fun g8 e => ?_
                have f_g8 : fS N g0 g8 := by rw [e, e_p7]; exact fS_tr f_g7 fn109_sz
                clear e
                exact f_g8
        · exact f_g3
    · exact f_g0
  · unfold dn158
    refine oS_dl ?_
    refine oS_dl ?_
    refine oS_let fun g1 e => ?_
    have f_g1 : fS N g0 g1 := by rw [e]; exact fS_up f_g0 (by decide)
    clear e
    refine oS_let fun g2 e => ?_
    have f_g2 : fS N g0 g2 := by rw [e]; exact fS_up f_g1 (by decide)
    clear e
    exact f_g2
theorem fn159_sz {x : List Int} {g0 : rHp} : fS N g0 (fn159 x g0).2.2 := by
  have f_g0 : fS N g0 g0 := fS_refl
  refine zGoo_P (I := fun s => fS N g0 s.2.2) fS_zero (fun s hs => ?_) ?_
  · unfold en159
    refine oS_ite (fun hb => ?_) (fun hb => ?_)
    · refine oS_let fun g1 e => ?_
      have f_g1 : fS N g0 g1 := by rw [e]; exact hs
      clear e
      refine oS_dl ?_
      refine oS_dl ?_
      refine oS_dl ?_
      refine oS_dl ?_
      refine oS_ite (fun hb => ?_) (fun hb => ?_)
      · refine oS_let fun p1 e_p1 => ?_
        refine oS_let fun g2 e => ?_
        have f_g2 : fS N g0 g2 := by rw [e, e_p1]; exact fS_tr f_g1 fn114_sz
        clear e
        refine oS_ite (fun hb => ?_) (fun hb => ?_)
        · refine oS_dl ?_
          refine oS_let fun p2 e_p2 => ?_
          refine oS_let fun g3 e => ?_
          have f_g3 : fS N g0 g3 := by rw [e, e_p2]; exact fS_tr f_g2 fn109_sz
          clear e
          exact f_g3
        · refine oS_dl ?_
          refine oS_let fun p2 e_p2 => ?_
          refine oS_let fun g3 e => ?_
          have f_g3 : fS N g0 g3 := by rw [e, e_p2]; exact fS_tr f_g2 fn109_sz
          clear e
          exact f_g3
      · refine oS_let fun p1 e_p1 => ?_
        refine oS_let fun g2 e => ?_
        have f_g2 : fS N g0 g2 := by rw [e, e_p1]; exact fS_tr f_g1 fn132_sz
        clear e
        refine oS_let fun p2 e_p2 => ?_
        refine oS_let fun g3 e => ?_
        have f_g3 : fS N g0 g3 := by rw [e, e_p2]; exact fS_tr f_g2 fn157_sz
        clear e
        refine oS_ite (fun hb => ?_) (fun hb => ?_)
        · refine oS_ite (fun hb => ?_) (fun hb => ?_)
          · refine oS_ite (fun hb => ?_) (fun hb => ?_)
            · refine oS_let fun g4 e => ?_
              have f_g4 : fS N g0 g4 := by rw [e]; exact fS_up f_g3 (by decide)
              clear e
              refine oS_let fun p4 e_p4 => ?_
              refine oS_let fun g5 e => ?_
              have f_g5 : fS N g0 g5 := by rw [e, e_p4]; exact fS_tr f_g4 fn114_sz
              clear e
              refine oS_ite (fun hb => ?_) (fun hb => ?_)
              · refine oS_dl ?_
                refine oS_dl ?_
                refine oS_ite (fun hb => ?_) (fun hb => ?_)
                · refine oS_let fun g6 e => ?_
                  have f_g6 : fS N g0 g6 := by rw [e]; exact fS_up f_g5 (by decide)
                  clear e
                  exact f_g6
                · refine oS_let fun p5 e_p5 => ?_
                  refine oS_let fun g6 e => ?_
                  have f_g6 : fS N g0 g6 := by rw [e, e_p5]; exact fS_tr f_g5 fn109_sz
                  clear e
                  exact f_g6
              · refine oS_dl ?_
                refine oS_let fun g6 e => ?_
                have f_g6 : fS N g0 g6 := by rw [e]; exact fS_up f_g5 (by decide)
                clear e
                refine oS_let fun p6 e_p6 => ?_
                refine oS_let fun g7 e => ?_
                have f_g7 : fS N g0 g7 := by rw [e, e_p6]; exact fS_tr f_g6 fn152_sz
                clear e
                refine oS_ite (fun hb => ?_) (fun hb => ?_)
                · exact f_g7
                · exact f_g7
            · refine oS_let fun g4 e => ?_
              have f_g4 : fS N g0 g4 := by rw [e]; exact fS_up f_g3 (by decide)
              clear e
              refine oS_let fun p4 e_p4 => ?_
              refine oS_let fun g5 e => ?_
              have f_g5 : fS N g0 g5 := by rw [e, e_p4]; exact fS_tr f_g4 fn114_sz
              clear e
              refine oS_ite (fun hb => ?_) (fun hb => ?_)
              · refine oS_dl ?_
                refine oS_dl ?_
                refine oS_ite (fun hb => ?_) (fun hb => ?_)
                · refine oS_let fun g6 e => ?_
                  have f_g6 : fS N g0 g6 := by rw [e]; exact fS_up f_g5 (by decide)
                  clear e
                  exact f_g6
                · refine oS_let fun p5 e_p5 => ?_
                  refine oS_let fun g6 e => ?_
                  have f_g6 : fS N g0 g6 := by rw [e, e_p5]; exact fS_tr f_g5 fn109_sz
                  clear e
                  exact f_g6
              · refine oS_dl ?_
                refine oS_let fun g6 e => ?_
                have f_g6 : fS N g0 g6 := by rw [e]; exact fS_up f_g5 (by decide)
                clear e
                refine oS_let fun p6 e_p6 => ?_
                refine oS_let fun g7 e => ?_
                have f_g7 : fS N g0 g7 := by rw [e, e_p6]; exact fS_tr f_g6 fn152_sz
                clear e
                refine oS_ite (fun hb => ?_) (fun hb => ?_)
                · exact f_g7
                · exact f_g7
          · refine oS_dl ?_
            refine oS_let fun g4 e => ?_
            have f_g4 : fS N g0 g4 := by rw [e]; exact fS_up f_g3 (by decide)
            clear e
            refine oS_ite (fun hb => ?_) (fun hb => ?_)
            · refine oS_let fun p4 e_p4 => ?_
              refine oS_let fun g5 e => ?_
              have f_g5 : fS N g0 g5 := by rw [e, e_p4]; exact fS_tr f_g4 fn114_sz
              clear e
              refine oS_ite (fun hb => ?_) (fun hb => ?_)
              · refine oS_dl ?_
                refine oS_dl ?_
                refine oS_ite (fun hb => ?_) (fun hb => ?_)
                · refine oS_let fun g6 e => ?_
                  have f_g6 : fS N g0 g6 := by rw [e]; exact fS_up f_g5 (by decide)
                  clear e
                  exact f_g6
                · refine oS_let fun p5 e_p5 => ?_
                  refine oS_let fun g6 e => ?_
                  have f_g6 : fS N g0 g6 := by rw [e, e_p5]; exact fS_tr f_g5 fn109_sz
                  clear e
                  exact f_g6
              · refine oS_dl ?_
                refine oS_let fun g6 e => ?_
                have f_g6 : fS N g0 g6 := by rw [e]; exact fS_up f_g5 (by decide)
                clear e
                refine oS_let fun p6 e_p6 => ?_
                refine oS_let fun g7 e => ?_
                have f_g7 : fS N g0 g7 := by rw [e, e_p6]; exact fS_tr f_g6 fn152_sz
                clear e
                refine oS_ite (fun hb => ?_) (fun hb => ?_)
                · exact f_g7
                · exact f_g7
            · refine oS_let fun g5 e => ?_
              have f_g5 : fS N g0 g5 := by rw [e]; exact fS_up f_g4 (by decide)
              clear e
              refine oS_let fun g6 e => ?_
              have f_g6 : fS N g0 g6 := by rw [e]; exact fS_up f_g5 (by decide)
              clear e
              refine oS_let fun p6 e_p6 => ?_
              refine oS_let fun g7 e => ?_
              have f_g7 : fS N g0 g7 := by rw [e, e_p6]; exact fS_tr f_g6 fn114_sz
              clear e
              refine oS_ite (fun hb => ?_) (fun hb => ?_)
              · refine oS_dl ?_
                refine oS_dl ?_
                refine oS_ite (fun hb => ?_) (fun hb => ?_)
                · refine oS_let fun g8 e => ?_
                  have f_g8 : fS N g0 g8 := by rw [e]; exact fS_up f_g7 (by decide)
                  clear e
                  exact f_g8
                · refine oS_let fun p7 e_p7 => ?_
                  refine oS_let fun g8 e => ?_
                  have f_g8 : fS N g0 g8 := by rw [e, e_p7]; exact fS_tr f_g7 fn109_sz
                  clear e
                  exact f_g8
              · refine oS_dl ?_
                refine oS_let fun g8 e => ?_
                have f_g8 : fS N g0 g8 := by rw [e]; exact fS_up f_g7 (by decide)
                clear e
                refine oS_let fun p8 e_p8 => ?_
                refine oS_let fun g9 e => ?_
                have f_g9 : fS N g0 g9 := by rw [e, e_p8]; exact fS_tr f_g8 fn152_sz
                clear e
                refine oS_ite (fun hb => ?_) (fun hb => ?_)
                · exact f_g9
                · exact f_g9
        · exact f_g3
    · exact f_g0
  · unfold dn159
    refine oS_dl ?_
    refine oS_dl ?_
    refine oS_let fun g1 e => ?_
    have f_g1 : fS N g0 g1 := by rw [e]; exact fS_up f_g0 (by decide)
    clear e
    refine oS_let fun g2 e => ?_
    have f_g2 : fS N g0 g2 := by rw [e]; exact fS_up f_g1 (by decide)
    clear e
    exact f_g2
theorem fn167_sz {x : List Int} {g0 : rHp} : fS N g0 (fn167 x g0).2.2 := by
  have f_g0 : fS N g0 g0 := fS_refl
  show oP (fun h => fS N g0 h) (fn167 x g0)
  unfold fn167
  refine oP_dl ?_
  refine oP_dl ?_
  refine oP_let fun p0 e_p0 => ?_
  refine oP_let fun g1 e => ?_
  have f_g1 : fS N g0 g1 := by rw [e, e_p0]; exact fS_tr f_g0 fn131_sz
  clear e
  refine oP_let fun p1 e_p1 => ?_
  refine oP_let fun g2 e => ?_
  have f_g2 : fS N g0 g2 := by rw [e, e_p1]; exact fS_tr f_g1 fn111_sz
  clear e
  refine oP_let fun p2 e_p2 => ?_
  refine oP_let fun g3 e => ?_
  have f_g3 : fS N g0 g3 := by rw [e, e_p2]; exact fS_tr f_g2 fn146_sz
  clear e
  refine oP_ite (fun hb => ?_) (fun hb => ?_)
  · refine oP_ite (fun hb => ?_) (fun hb => ?_)
    · refine oP_let fun p3 e_p3 => ?_
      refine oP_let fun g4 e => ?_
      have f_g4 : fS N g0 g4 := by rw [e, e_p3]; exact fS_tr f_g3 fn148_sz
      clear e
      refine oP_ite (fun hb => ?_) (fun hb => ?_)
      · refine oP_let fun p4 e_p4 => ?_
        refine oP_let fun g5 e => ?_
        have f_g5 : fS N g0 g5 := by rw [e, e_p4]; exact fS_tr f_g4 fn149_sz
        clear e
        refine oP_ite (fun hb => ?_) (fun hb => ?_)
        · refine oP_let fun p5 e_p5 => ?_
          refine oP_let fun g6 e => ?_
          have f_g6 : fS N g0 g6 := by rw [e, e_p5]; exact fS_tr f_g5 fn112_sz
          clear e
          refine oP_let fun p6 e_p6 => ?_
          refine oP_let fun g7 e => ?_
          have f_g7 : fS N g0 g7 := by rw [e, e_p6]; exact fS_tr f_g6 fn128_sz
          clear e
          refine oP_dl ?_
          refine oP_ite (fun hb => ?_) (fun hb => ?_)
          · refine oP_let fun p7 e_p7 => ?_
            refine oP_let fun g8 e => ?_
            have f_g8 : fS N g0 g8 := by rw [e, e_p7]; exact fS_tr f_g7 fn130_sz
            clear e
            refine oP_let fun p8 e_p8 => ?_
            refine oP_let fun g9 e => ?_
            have f_g9 : fS N g0 g9 := by rw [e, e_p8]; exact fS_tr f_g8 fn163_sz
            clear e
            exact f_g9
          · exact f_g7
        · refine oP_dl ?_
          refine oP_let fun p5 e_p5 => ?_
          refine oP_let fun g6 e => ?_
          have f_g6 : fS N g0 g6 := by rw [e, e_p5]; exact fS_tr f_g5 fn112_sz
          clear e
          exact f_g6
      · refine oP_dl ?_
        refine oP_let fun p4 e_p4 => ?_
        refine oP_let fun g5 e => ?_
        have f_g5 : fS N g0 g5 := by rw [e, e_p4]; exact fS_tr f_g4 fn112_sz
        clear e
        exact f_g5
    · refine oP_let fun p3 e_p3 => ?_
      refine oP_let fun g4 e => ?_
      have f_g4 : fS N g0 g4 := by rw [e, e_p3]; exact fS_tr f_g3 fn148_sz
      clear e
      refine oP_ite (fun hb => ?_) (fun hb => ?_)
      · refine oP_let fun p4 e_p4 => ?_
        refine oP_let fun g5 e => ?_
        have f_g5 : fS N g0 g5 := by rw [e, e_p4]; exact fS_tr f_g4 fn149_sz
        clear e
        refine oP_ite (fun hb => ?_) (fun hb => ?_)
        · refine oP_let fun p5 e_p5 => ?_
          refine oP_let fun g6 e => ?_
          have f_g6 : fS N g0 g6 := by rw [e, e_p5]; exact fS_tr f_g5 fn112_sz
          clear e
          refine oP_let fun p6 e_p6 => ?_
          refine oP_let fun g7 e => ?_
          have f_g7 : fS N g0 g7 := by rw [e, e_p6]; exact fS_tr f_g6 fn128_sz
          clear e
          refine oP_dl ?_
          refine oP_ite (fun hb => ?_) (fun hb => ?_)
          · refine oP_let fun p7 e_p7 => ?_
            refine oP_let fun g8 e => ?_
            have f_g8 : fS N g0 g8 := by rw [e, e_p7]; exact fS_tr f_g7 fn130_sz
            clear e
            refine oP_let fun p8 e_p8 => ?_
            refine oP_let fun g9 e => ?_
            have f_g9 : fS N g0 g9 := by rw [e, e_p8]; exact fS_tr f_g8 fn163_sz
            clear e
            exact f_g9
          · exact f_g7
        · refine oP_dl ?_
          refine oP_let fun p5 e_p5 => ?_
          refine oP_let fun g6 e => ?_
          have f_g6 : fS N g0 g6 := by rw [e, e_p5]; exact fS_tr f_g5 fn112_sz
          clear e
          exact f_g6
      · refine oP_dl ?_
        refine oP_let fun p4 e_p4 => ?_
        refine oP_let fun g5 e => ?_
        have f_g5 : fS N g0 g5 := by rw [e, e_p4]; exact fS_tr f_g4 fn112_sz
        clear e
        exact f_g5
  · refine oP_dl ?_
    refine oP_let fun p3 e_p3 => ?_
    refine oP_let fun g4 e => ?_
    have f_g4 : fS N g0 g4 := by rw [e, e_p3]; exact fS_tr f_g3 fn112_sz
    clear e
    exact f_g4
theorem fn166_sz {x : List Int} {g0 : rHp} : fT3 N g0 (fn166 x g0).2.2 := by
  refine zGoo_R (Q := fun r : zR => fT3 N g0 r.2.2) (I := fun s => fT2 N g0 s.2.2) fT3_zero (fun s hs => ?_) ?_
  · unfold en166
    refine oT_ite (fun hb => ?_) (fun hb => ?_)
    · refine oT_let fun g1 e => ?_
      have f_g1 : fT2 N g0 g1 := by rw [e]; exact hs
      clear e
      refine oT_dl ?_
      refine oT_dl ?_
      refine oT_dl ?_
      refine oT_dl ?_
      refine oT_ite (fun hb => ?_) (fun hb => ?_)
      · refine oT_let fun p1 e_p1 => ?_
        refine oT_let fun g2 e => ?_
        have f_g2 : fT2 N g0 g2 := by rw [e, e_p1]; exact fT2_tr f_g1 fn112_sz
        clear e
        refine oT_let fun p2 e_p2 => ?_
        refine oT_let fun g3 e => ?_
        have f_g3 : fT2 N g0 g3 := by rw [e, e_p2]; exact fT2_back f_g2
        clear e
        exact fT3_of f_g3
      · refine oT_ite (fun hb => ?_) (fun hb => ?_)
        · refine oT_let fun p1 e_p1 => ?_
          refine oT_let fun g2 e => ?_
          have f_g2 : fT2 N g0 g2 := by rw [e, e_p1]; exact fT2_tr f_g1 fn112_sz
          clear e
          refine oT_let fun p2 e_p2 => ?_
          refine oT_let fun g3 e => ?_
          have f_g3 : fT2 N g0 g3 := by rw [e, e_p2]; exact fT2_tr f_g2 fn124_sz
          clear e
          refine oT_ite (fun hb => ?_) (fun hb => ?_)
          · refine oT_let fun p3 e_p3 => ?_
            refine oT_let fun g4 e => ?_
            have f_g4 : fT2 N g0 g4 := by rw [e, e_p3]; exact fT2_tr f_g3 fn163_sz
            clear e
            exact fT3_of f_g4
          · exact fT3_of f_g3
        · refine oT_let fun p1 e_p1 => ?_
          refine oT_let fun g2 e => ?_
          have f_g2 : fT2 N g0 g2 := by rw [e, e_p1]; exact fT2_tr f_g1 fn114_sz
          clear e
          refine oT_ite (fun hb => ?_) (fun hb => ?_)
          · refine oT_dl ?_
            refine oT_let fun p2 e_p2 => ?_
            refine oT_let fun g3 e => ?_
            have f_g3 : fT2 N g0 g3 := by rw [e, e_p2]; exact fT2_tr f_g2 fn131_sz
            clear e
            refine oT_let fun p3 e_p3 => ?_
            refine oT_let fun g4 e => ?_
            have f_g4 : fT2 N g0 g4 := by rw [e, e_p3]; exact fT2_tr f_g3 fn146_sz
            clear e
            refine oT_ite (fun hb => ?_) (fun hb => ?_)
            · refine oT_let fun p4 e_p4 => ?_
              refine oT_let fun g5 e => ?_
              have f_g5 : fT2 N g0 g5 := by rw [e, e_p4]; exact fT2_tr f_g4 fn114_sz
              clear e
              refine oT_ite (fun hb => ?_) (fun hb => ?_)
              · refine oT_dl ?_
                refine oT_ite (fun hb => ?_) (fun hb => ?_)
                · refine oT_let fun p5 e_p5 => ?_
                  refine oT_let fun g6 e => ?_
                  have f_g6 : fT2 N g0 g6 := by rw [e, e_p5]; exact fT2_tr f_g5 fn151_sz
                  clear e
                  refine oT_ite (fun hb => ?_) (fun hb => ?_)
                  · refine oT_let fun p6 e_p6 => ?_
                    refine oT_let fun g7 e => ?_
                    have f_g7 : fT2 N g0 g7 := by rw [e, e_p6]; exact fT2_tr f_g6 fn158_sz
                    clear e
                    refine oT_ite (fun hb => ?_) (fun hb => ?_)
                    · refine oT_let fun p7 e_p7 => ?_
                      refine oT_let fun g8 e => ?_
                      have f_g8 : fT2 N g0 g8 := by rw [e, e_p7]; exact fT2_tr f_g7 fn160_sz
                      clear e
                      exact f_g8
                    · exact f_g7
                  · exact f_g6
                · refine oT_let fun p5 e_p5 => ?_
                  refine oT_let fun g6 e => ?_
                  have f_g6 : fT2 N g0 g6 := by rw [e, e_p5]; exact fT2_tr f_g5 fn150_sz
                  clear e
                  refine oT_ite (fun hb => ?_) (fun hb => ?_)
                  · exact f_g6
                  · exact f_g6
              · refine oT_let fun p5 e_p5 => ?_
                refine oT_let fun g6 e => ?_
                have f_g6 : fT2 N g0 g6 := by rw [e, e_p5]; exact fT2_tr f_g5 fn151_sz
                clear e
                exact f_g6
            · exact f_g4
          · refine oT_let fun p2 e_p2 => ?_
            refine oT_let fun g3 e => ?_
            have f_g3 : fT2 N g0 g3 := by rw [e, e_p2]; exact fT2_tr f_g2 fn112_sz
            clear e
            refine oT_let fun p3 e_p3 => ?_
            refine oT_let fun g4 e => ?_
            have f_g4 : fT2 N g0 g4 := by rw [e, e_p3]; exact fT2_tr f_g3 fn124_sz
            clear e
            refine oT_ite (fun hb => ?_) (fun hb => ?_)
            · refine oT_let fun p4 e_p4 => ?_
              refine oT_let fun g5 e => ?_
              have f_g5 : fT2 N g0 g5 := by rw [e, e_p4]; exact fT2_tr f_g4 fn163_sz
              clear e
              exact fT3_of f_g5
            · exact fT3_of f_g4
    · exact fT3_refl
  · unfold dn166
    refine oT_let fun p0 e_p0 => ?_
    refine oT_let fun g1 e => ?_
    have f_g1 : fT2 N g0 g1 := by rw [e, e_p0]; exact fT2_mark
    clear e
    refine oT_let fun p1 e_p1 => ?_
    refine oT_let fun g2 e => ?_
    have f_g2 : fT2 N g0 g2 := by rw [e, e_p1]; exact fT2_tr f_g1 fn111_sz
    clear e
    exact f_g2
theorem hF1_sz {c : rHp} : fS N c (hF1 c) := by
  unfold hF1
  split
  · exact fS_up (fS_tr (show fS N c (qUc 1 c) from fn111_sz (x := [1])) fn146_sz) (by decide)
  · exact fS_up fS_refl (by decide)
theorem hA1_sz {c : rHp} : fS N c (hA1 c) := by
  unfold hA1
  split
  · exact fS_up (fS_tr (show fS N c (qUc 2 c) from fn111_sz (x := [2])) fn159_sz) (by decide)
  · exact fS_up fS_refl (by decide)
