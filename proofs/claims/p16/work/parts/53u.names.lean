/-! ===== the class_q constants that are NAMES ===== -/
noncomputable def pcN (g : rHp) : Prop := 0 ≤ g 3 0 1 ∧ ∀ h k, g 46 h k < 1099511627776 + g 3 0 1
noncomputable def fN (g g_q : rHp) : Prop := (∃ j, g_q 40 0 j ≠ 0) → g_q 40 = g 40 ∧ (pcN g → pcN g_q) ∧ g 3 0 1 ≤ g_q 3 0 1
theorem fN_refl {g : rHp} : fN g g := fun _ => ⟨rfl, id, Int.le_refl _⟩
theorem fN_zero {g : rHp} : fN g (fun _ _ _ => 0) := fun ⟨_, h⟩ => absurd rfl h
theorem fN_tr {a b c : rHp} (h1 : fN a b) (h2 : fN b c) : fN a c := fun z => by
  obtain ⟨b0, b9, b8⟩ := h2 z
  obtain ⟨a0, a9, a8⟩ := h1 (by rw [← b0]; exact z)
  exact ⟨b0.trans a0, fun w => b9 (a9 w), Int.le_trans a8 b8⟩
theorem fN_up {a b : rHp} {K : Nat} {o j v : Int} (h : fN a b) (hK : K ≠ 3 ∧ K ≠ 40 ∧ K ≠ 46) : fN a (rUp b K o j v) := by
  unfold fN pcN
  rw [rUp_grp (Ne.symm hK.1), rUp_grp (Ne.symm hK.2.1), rUp_grp (Ne.symm hK.2.2)]
  exact h
theorem fN_cp {a b : rHp} {K K2 : Nat} {o j o2 j2 n : Int} (h : fN a b) (hK : K2 ≠ 3 ∧ K2 ≠ 40 ∧ K2 ≠ 46) : fN a (zCpy b K o j K2 o2 j2 n) := by
  unfold fN pcN
  rw [zCpy_grp (Ne.symm hK.1), zCpy_grp (Ne.symm hK.2.1), zCpy_grp (Ne.symm hK.2.2)]
  exact h
theorem pcN_up {g : rHp} {h k v : Int} (p : pcN g) (hv : v < 1099511627776 + g 3 0 1) : pcN (rUp g 46 h k v) := by
  unfold pcN
  rw [rUp_grp (show (3 : Nat) ≠ 46 by decide)]
  refine ⟨p.1, fun x y => ?_⟩
  by_cases e : x = h ∧ y = k
  · rw [e.1, e.2, rUp_at]; exact hv
  · rw [rUp_ne (fun w => e w.2)]; exact p.2 x y
theorem fn104_nv {h kd pl sl v : Int} {g0 : rHp} (hv : v < 1099511627776) : fN g0 (fn104 [h, kd, pl, sl, v] g0).2.2 := by
  intro _
  unfold fn104
  simp only [zLet, List.getD_cons_zero, List.getD_cons_succ]
  split
  · exact ⟨rfl, id, Int.le_refl _⟩
  · refine ⟨?_, fun p => ?_, ?_⟩
    · dsimp only
      rw [rUp_grp (by decide), rUp_grp (by decide), rUp_grp (by decide), rUp_grp (by decide), rUp_grp (by decide)]
    · have q : pcN (rUp (rUp (rUp g0 43 h (g0 10 h 5) kd) 45 h (g0 10 h 5) pl) 44 h (g0 10 h 5) sl) := by
        unfold pcN
        rw [rUp_grp (show (3 : Nat) ≠ 44 by decide), rUp_grp (show (3 : Nat) ≠ 45 by decide), rUp_grp (show (3 : Nat) ≠ 43 by decide), rUp_grp (show (46 : Nat) ≠ 44 by decide), rUp_grp (show (46 : Nat) ≠ 45 by decide), rUp_grp (show (46 : Nat) ≠ 43 by decide)]
        exact p
      have q2 := pcN_up (h := h) (k := g0 10 h 5) (v := v) q (by have := q.1; omega)
      show pcN (rUp (rUp (rUp (rUp (rUp g0 43 h (g0 10 h 5) kd) 45 h (g0 10 h 5) pl) 44 h (g0 10 h 5) sl) 46 h (g0 10 h 5) v) 10 h 5 (g0 10 h 5 + 1))
      unfold pcN
      rw [rUp_grp (show (3 : Nat) ≠ 10 by decide), rUp_grp (show (46 : Nat) ≠ 10 by decide)]
      exact q2
    · dsimp only
      rw [rUp_grp (by decide), rUp_grp (by decide), rUp_grp (by decide), rUp_grp (by decide), rUp_grp (by decide)]
      exact Int.le_refl _
theorem fn104_n0 {h kd pl sl : Int} {g0 : rHp} : fN g0 (fn104 [h, kd, pl, sl, 0] g0).2.2 := fn104_nv (by decide)
theorem fn99_nq {h : Int} {g0 : rHp} : fN g0 (fn99 [h, 0] g0).2.2 := by
  refine zGoo_R (Q := fun r : zR => fN g0 r.2.2) (I := fun s => s.2.1.getD 1 0 = 0 ∧ fN g0 s.2.2) fN_zero (fun s hs => ?_) ⟨rfl, fN_refl⟩
  unfold en99
  refine oT_ite (fun hb => ?_) (fun hb => fN_refl)
  refine oT_let fun g1 e => ?_
  refine oT_dl ?_
  refine oT_dl ?_
  refine oT_dl ?_
  refine oT_ite (fun hb2 => ?_) (fun hb2 => ?_)
  · show fN g0 g1
    rw [e]; exact hs.2
  · refine ⟨hs.1, ?_⟩
    show fN g0 (rUp g1 46 _ _ (s.2.1.getD 1 0))
    rw [hs.1, e]
    intro z
    rw [rUp_grp (by decide)] at z
    obtain ⟨a0, a1, a2⟩ := hs.2 z
    refine ⟨by rw [rUp_grp (by decide)]; exact a0, fun p => ?_, by rw [rUp_grp (show (3 : Nat) ≠ 46 by decide)]; exact a2⟩
    exact pcN_up (a1 p) (by have := (a1 p).1; omega)
theorem fn92_n {w : Int} {g0 : rHp} : ((fn92 [w] g0).2.2 40 = g0 40 ∧ g0 3 0 1 ≤ (fn92 [w] g0).2.2 3 0 1) ∧ (pcN g0 → pcN (fn92 [w] g0).2.2 ∧ (fn92 [w] g0).2.1 < (fn92 [w] g0).2.2 3 0 1) := by
  rw [fn92_eq]
  split
  · split
    · refine ⟨⟨?_, ?_⟩, fun p => ⟨?_, ?_⟩⟩
      · dsimp only
        rw [rUp_grp (by decide), rUp_grp (by decide)]
      · show g0 3 0 1 ≤ rUp (rUp g0 26 0 (g0 3 0 1) w) 3 0 1 (g0 3 0 1 + 1) 3 0 1
        rw [rUp_at]; omega
      · show pcN (rUp (rUp g0 26 0 (g0 3 0 1) w) 3 0 1 (g0 3 0 1 + 1))
        unfold pcN
        rw [rUp_at, rUp_grp (show (46 : Nat) ≠ 3 by decide), rUp_grp (show (46 : Nat) ≠ 26 by decide)]
        have := p.1
        exact ⟨by omega, fun h k => by have := p.2 h k; omega⟩
      · show g0 3 0 1 < rUp (rUp g0 26 0 (g0 3 0 1) w) 3 0 1 (g0 3 0 1 + 1) 3 0 1
        rw [rUp_at]; omega
    · refine ⟨⟨rfl, Int.le_refl _⟩, fun p => ⟨p, ?_⟩⟩
      show (-1 : Int) < g0 3 0 1
      have := p.1
      omega
  · rename_i h
    refine ⟨⟨rfl, Int.le_refl _⟩, fun p => ⟨p, ?_⟩⟩
    show pIx _ (g0 3 0 1) 0 < g0 3 0 1
    omega
theorem fn92_nq {w : Int} {g0 : rHp} : fN g0 (fn92 [w] g0).2.2 := fun _ => ⟨fn92_n.1.1, fun p => (fn92_n.2 p).1, fn92_n.1.2⟩
theorem fn135_nq {x : List Int} {g0 : rHp} : fN g0 (fn135 x g0).2.2 := by
  have key : ∀ (a b d : Int), fN g0 (fn104 [a, 0, b, 0, (fn92 [d] g0).2.1 + 1099511627776] (fn92 [d] g0).2.2).2.2 := by
    intro a b d z
    obtain ⟨⟨k0, k2⟩, k1⟩ := fn92_n (w := d) (g0 := g0)
    generalize (fn92 [d] g0).2.1 = v at *
    generalize (fn92 [d] g0).2.2 = g1 at *
    have e : ((fn104 [a, 0, b, 0, v + 1099511627776] g1).2.2 40 = g1 40 ∧ (fn104 [a, 0, b, 0, v + 1099511627776] g1).2.2 3 0 1 = g1 3 0 1) ∧ (pcN g1 → v < g1 3 0 1 → pcN (fn104 [a, 0, b, 0, v + 1099511627776] g1).2.2) := by
      unfold fn104
      simp only [zLet, List.getD_cons_zero, List.getD_cons_succ]
      split
      · exact ⟨⟨rfl, rfl⟩, fun p _ => p⟩
      · refine ⟨⟨?_, ?_⟩, fun p hv => ?_⟩
        · dsimp only
          rw [rUp_grp (by decide), rUp_grp (by decide), rUp_grp (by decide), rUp_grp (by decide), rUp_grp (by decide)]
        · dsimp only
          rw [rUp_grp (by decide), rUp_grp (by decide), rUp_grp (by decide), rUp_grp (by decide), rUp_grp (by decide)]
        · have q : pcN (rUp (rUp (rUp g1 43 a (g1 10 a 5) 0) 45 a (g1 10 a 5) b) 44 a (g1 10 a 5) 0) := by
            unfold pcN
            rw [rUp_grp (show (3 : Nat) ≠ 44 by decide), rUp_grp (show (3 : Nat) ≠ 45 by decide), rUp_grp (show (3 : Nat) ≠ 43 by decide), rUp_grp (show (46 : Nat) ≠ 44 by decide), rUp_grp (show (46 : Nat) ≠ 45 by decide), rUp_grp (show (46 : Nat) ≠ 43 by decide)]
            exact p
          have q3 : (rUp (rUp (rUp g1 43 a (g1 10 a 5) 0) 45 a (g1 10 a 5) b) 44 a (g1 10 a 5) 0) 3 0 1 = g1 3 0 1 := by
            rw [rUp_grp (by decide), rUp_grp (by decide), rUp_grp (by decide)]
          have q2 := pcN_up (h := a) (k := g1 10 a 5) (v := v + 1099511627776) q (by rw [q3]; omega)
          show pcN (rUp (rUp (rUp (rUp (rUp g1 43 a (g1 10 a 5) 0) 45 a (g1 10 a 5) b) 44 a (g1 10 a 5) 0) 46 a (g1 10 a 5) (v + 1099511627776)) 10 a 5 (g1 10 a 5 + 1))
          unfold pcN
          rw [rUp_grp (show (3 : Nat) ≠ 10 by decide), rUp_grp (show (46 : Nat) ≠ 10 by decide)]
          exact q2
    exact ⟨e.1.1.trans k0, fun p => e.2 (k1 p).1 (k1 p).2, by rw [e.1.2]; exact k2⟩
  have f109 : ∀ (y : List Int) (g : rHp), fN g (fn109 y g).2.2 := fun y g => by
    show fN g (rUp g 2 0 4 _)
    exact fN_up fN_refl (by decide)
  unfold fn135
  simp only [zLet]
  split
  · exact key _ _ _
  · exact fN_tr (key _ _ _) (f109 _ _)
theorem fn102_nq {x : List Int} {g0 : rHp} : fN g0 (fn102 x g0).2.2 := by
  have f_g0 : fN g0 g0 := fN_refl
  show oP (fun h => fN g0 h) (fn102 x g0)
  unfold fn102
  refine oP_dl ?_
  refine oP_dl ?_
  refine oP_dl ?_
  refine oP_dl ?_
  refine oP_let fun g1 e => ?_
  have f_g1 : fN g0 g1 := by rw [e]; exact fN_up f_g0 (by decide)
  clear e
  refine oP_let fun g2 e => ?_
  have f_g2 : fN g0 g2 := by rw [e]; exact fN_up f_g1 (by decide)
  clear e
  refine oP_let fun g3 e => ?_
  have f_g3 : fN g0 g3 := by rw [e]; exact fN_up f_g2 (by decide)
  clear e
  refine oP_let fun g4 e => ?_
  have f_g4 : fN g0 g4 := by rw [e]; exact fN_up f_g3 (by decide)
  clear e
  refine oP_let fun g5 e => ?_
  have f_g5 : fN g0 g5 := by rw [e]; exact fN_up f_g4 (by decide)
  clear e
  refine oP_let fun g6 e => ?_
  have f_g6 : fN g0 g6 := by rw [e]; exact fN_up f_g5 (by decide)
  clear e
  refine oP_let fun g7 e => ?_
  have f_g7 : fN g0 g7 := by rw [e]; exact fN_up f_g6 (by decide)
  clear e
  refine oP_let fun p7 e_p7 => ?_
  refine oP_let fun g8 e => ?_
  have f_g8 : fN g0 g8 := by rw [e, e_p7]; exact fN_tr f_g7 fn99_nq
  clear e
  exact f_g8
theorem fn103_nq {x : List Int} {g0 : rHp} : fN g0 (fn103 x g0).2.2 := by
  have f_g0 : fN g0 g0 := fN_refl
  show oP (fun h => fN g0 h) (fn103 x g0)
  unfold fn103
  refine oP_dl ?_
  refine oP_dl ?_
  refine oP_dl ?_
  refine oP_dl ?_
  refine oP_dl ?_
  refine oP_dl ?_
  refine oP_let fun g1 e => ?_
  have f_g1 : fN g0 g1 := by rw [e]; exact fN_up f_g0 (by decide)
  clear e
  refine oP_let fun g2 e => ?_
  have f_g2 : fN g0 g2 := by rw [e]; exact fN_up f_g1 (by decide)
  clear e
  refine oP_let fun g3 e => ?_
  have f_g3 : fN g0 g3 := by rw [e]; exact fN_up f_g2 (by decide)
  clear e
  refine oP_let fun g4 e => ?_
  have f_g4 : fN g0 g4 := by rw [e]; exact fN_up f_g3 (by decide)
  clear e
  refine oP_let fun g5 e => ?_
  have f_g5 : fN g0 g5 := by rw [e]; exact fN_up f_g4 (by decide)
  clear e
  refine oP_let fun g6 e => ?_
  have f_g6 : fN g0 g6 := by rw [e]; exact fN_up f_g5 (by decide)
  clear e
  refine oP_let fun g7 e => ?_
  have f_g7 : fN g0 g7 := by rw [e]; exact fN_up f_g6 (by decide)
  clear e
  refine oP_let fun p7 e_p7 => ?_
  refine oP_let fun g8 e => ?_
  have f_g8 : fN g0 g8 := by rw [e, e_p7]; exact fN_tr f_g7 fn99_nq
  clear e
  exact f_g8
theorem fn105_nq {x : List Int} {g0 : rHp} : fN g0 (fn105 x g0).2.2 := by
  have f_g0 : fN g0 g0 := fN_refl
  show oP (fun h => fN g0 h) (fn105 x g0)
  unfold fn105
  refine oP_dl ?_
  refine oP_ite (fun hb => ?_) (fun hb => ?_)
  · exact f_g0
  · refine oP_ite (fun hb => ?_) (fun hb => ?_)
    · exact f_g0
    · exact f_g0
theorem fn106_nq {x : List Int} {g0 : rHp} : fN g0 (fn106 x g0).2.2 := by
  have f_g0 : fN g0 g0 := fN_refl
  show oP (fun h => fN g0 h) (fn106 x g0)
  unfold fn106
  refine oP_dl ?_
  refine oP_ite (fun hb => ?_) (fun hb => ?_)
  · exact f_g0
  · refine oP_ite (fun hb => ?_) (fun hb => ?_)
    · exact f_g0
    · exact f_g0
theorem fn107_nq {x : List Int} {g0 : rHp} : fN g0 (fn107 x g0).2.2 := by
  have f_g0 : fN g0 g0 := fN_refl
  show oP (fun h => fN g0 h) (fn107 x g0)
  unfold fn107
  refine oP_dl ?_
  refine oP_ite (fun hb => ?_) (fun hb => ?_)
  · exact f_g0
  · refine oP_ite (fun hb => ?_) (fun hb => ?_)
    · exact f_g0
    · exact f_g0
theorem fn108_nq {x : List Int} {g0 : rHp} : fN g0 (fn108 x g0).2.2 := by
  have f_g0 : fN g0 g0 := fN_refl
  show oP (fun h => fN g0 h) (fn108 x g0)
  unfold fn108
  refine oP_dl ?_
  refine oP_ite (fun hb => ?_) (fun hb => ?_)
  · refine oP_ite (fun hb => ?_) (fun hb => ?_)
    · exact f_g0
    · refine oP_ite (fun hb => ?_) (fun hb => ?_)
      · refine oP_ite (fun hb => ?_) (fun hb => ?_)
        · exact f_g0
        · exact f_g0
      · exact f_g0
  · refine oP_ite (fun hb => ?_) (fun hb => ?_)
    · exact f_g0
    · exact f_g0
theorem fn109_nq {x : List Int} {g0 : rHp} : fN g0 (fn109 x g0).2.2 := by
  have f_g0 : fN g0 g0 := fN_refl
  show oP (fun h => fN g0 h) (fn109 x g0)
  unfold fn109
  refine oP_dl ?_
  refine oP_let fun g1 e => ?_
  have f_g1 : fN g0 g1 := by rw [e]; exact fN_up f_g0 (by decide)
  clear e
  exact f_g1
theorem fn110_nq {x : List Int} {g0 : rHp} : fN g0 (fn110 x g0).2.2 := by
  have f_g0 : fN g0 g0 := fN_refl
  show oP (fun h => fN g0 h) (fn110 x g0)
  unfold fn110
  refine oP_let fun g1 e => ?_
  have f_g1 : fN g0 g1 := by rw [e]; exact fN_up f_g0 (by decide)
  clear e
  refine oP_let fun g2 e => ?_
  have f_g2 : fN g0 g2 := by rw [e]; exact fN_up f_g1 (by decide)
  clear e
  refine oP_let fun g3 e => ?_
  have f_g3 : fN g0 g3 := by rw [e]; exact fN_up f_g2 (by decide)
  clear e
  exact f_g3
theorem fn112_nq {x : List Int} {g0 : rHp} : fN g0 (fn112 x g0).2.2 := by
  have f_g0 : fN g0 g0 := fN_refl
  show oP (fun h => fN g0 h) (fn112 x g0)
  unfold fn112
  refine oP_let fun g1 e => ?_
  have f_g1 : fN g0 g1 := by rw [e]; exact fN_up f_g0 (by decide)
  clear e
  exact f_g1
theorem fn114_nq {x : List Int} {g0 : rHp} : fN g0 (fn114 x g0).2.2 := by
  have f_g0 : fN g0 g0 := fN_refl
  refine zGoo_P (I := fun s => fN g0 s.2.2) fN_zero (fun s hs => ?_) ?_
  · unfold en114
    refine oS_ite (fun hb => ?_) (fun hb => ?_)
    · refine oS_let fun g1 e => ?_
      have f_g1 : fN g0 g1 := by rw [e]; exact hs
      clear e
      refine oS_dl ?_
      refine oS_dl ?_
      refine oS_ite (fun hb => ?_) (fun hb => ?_)
      · exact f_g1
      · refine oS_dl ?_
        refine oS_ite (fun hb => ?_) (fun hb => ?_)
        · refine oS_let fun g2 e => ?_
          have f_g2 : fN g0 g2 := by rw [e]; exact fN_up f_g1 (by decide)
          clear e
          exact f_g2
        · refine oS_ite (fun hb => ?_) (fun hb => ?_)
          · refine oS_dl ?_
            exact f_g1
          · refine oS_let fun g2 e => ?_
            have f_g2 : fN g0 g2 := by rw [e]; exact fN_up f_g1 (by decide)
            clear e
            exact f_g2
    · exact f_g0
  · unfold dn114
    refine oS_dl ?_
    refine oS_dl ?_
    refine oS_ite (fun hb => ?_) (fun hb => ?_)
    · exact f_g0
    · refine oS_dl ?_
      refine oS_ite (fun hb => ?_) (fun hb => ?_)
      · refine oS_let fun g1 e => ?_
        have f_g1 : fN g0 g1 := by rw [e]; exact fN_up f_g0 (by decide)
        clear e
        exact f_g1
      · refine oS_ite (fun hb => ?_) (fun hb => ?_)
        · refine oS_dl ?_
          exact f_g0
        · refine oS_let fun g1 e => ?_
          have f_g1 : fN g0 g1 := by rw [e]; exact fN_up f_g0 (by decide)
          clear e
          exact f_g1
theorem fn117_nq {x : List Int} {g0 : rHp} : fN g0 (fn117 x g0).2.2 := by
  have f_g0 : fN g0 g0 := fN_refl
  show oP (fun h => fN g0 h) (fn117 x g0)
  unfold fn117
  refine oP_dl ?_
  refine oP_dl ?_
  refine oP_dl ?_
  refine oP_dl ?_
  refine oP_ite (fun hb => ?_) (fun hb => ?_)
  · exact f_g0
  · exact f_g0
theorem fn118_nq {x : List Int} {g0 : rHp} : fN g0 (fn118 x g0).2.2 := by
  have f_g0 : fN g0 g0 := fN_refl
  show oP (fun h => fN g0 h) (fn118 x g0)
  unfold fn118
  refine oP_dl ?_
  refine oP_dl ?_
  refine oP_dl ?_
  refine oP_dl ?_
  refine oP_ite (fun hb => ?_) (fun hb => ?_)
  · exact f_g0
  · exact f_g0
theorem fn119_nq {x : List Int} {g0 : rHp} : fN g0 (fn119 x g0).2.2 := by
  have f_g0 : fN g0 g0 := fN_refl
  refine zGoo_P (I := fun s => fN g0 s.2.2) fN_zero (fun s hs => ?_) ?_
  · unfold en119
    refine oS_ite (fun hb => ?_) (fun hb => ?_)
    · refine oS_let fun g1 e => ?_
      have f_g1 : fN g0 g1 := by rw [e]; exact hs
      clear e
      refine oS_dl ?_
      refine oS_dl ?_
      refine oS_dl ?_
      refine oS_ite (fun hb => ?_) (fun hb => ?_)
      · exact f_g1
      · refine oS_dl ?_
        refine oS_ite (fun hb => ?_) (fun hb => ?_)
        · exact f_g1
        · exact f_g1
    · exact f_g0
  · unfold dn119
    refine oS_dl ?_
    exact f_g0
theorem fn121_nq {x : List Int} {g0 : rHp} : fN g0 (fn121 x g0).2.2 := by
  have f_g0 : fN g0 g0 := fN_refl
  show oP (fun h => fN g0 h) (fn121 x g0)
  unfold fn121
  refine oP_dl ?_
  refine oP_dl ?_
  refine oP_dl ?_
  refine oP_ite (fun hb => ?_) (fun hb => ?_)
  · exact f_g0
  · refine oP_let fun g1 e => ?_
    have f_g1 : fN g0 g1 := by rw [e]; exact fN_up f_g0 (by decide)
    clear e
    refine oP_let fun g2 e => ?_
    have f_g2 : fN g0 g2 := by rw [e]; exact fN_up f_g1 (by decide)
    clear e
    refine oP_let fun g3 e => ?_
    have f_g3 : fN g0 g3 := by rw [e]; exact fN_up f_g2 (by decide)
    clear e
    exact f_g3
theorem fn122_nq {x : List Int} {g0 : rHp} : fN g0 (fn122 x g0).2.2 := by
  have f_g0 : fN g0 g0 := fN_refl
  show oP (fun h => fN g0 h) (fn122 x g0)
  unfold fn122
  refine oP_dl ?_
  refine oP_ite (fun hb => ?_) (fun hb => ?_)
  · refine oP_ite (fun hb => ?_) (fun hb => ?_)
    · refine oP_ite (fun hb => ?_) (fun hb => ?_)
      · refine oP_ite (fun hb => ?_) (fun hb => ?_)
        · exact f_g0
        · exact f_g0
      · exact f_g0
    · exact f_g0
  · exact f_g0
theorem fn123_nq {x : List Int} {g0 : rHp} : fN g0 (fn123 x g0).2.2 := by
  have f_g0 : fN g0 g0 := fN_refl
  show oP (fun h => fN g0 h) (fn123 x g0)
  unfold fn123
  refine oP_dl ?_
  refine oP_dl ?_
  refine oP_dl ?_
  refine oP_let fun g1 e => ?_
  have f_g1 : fN g0 g1 := by rw [e]; exact fN_up f_g0 (by decide)
  clear e
  refine oP_let fun g2 e => ?_
  have f_g2 : fN g0 g2 := by rw [e]; exact fN_up f_g1 (by decide)
  clear e
  refine oP_let fun g3 e => ?_
  have f_g3 : fN g0 g3 := by rw [e]; exact fN_up f_g2 (by decide)
  clear e
  exact f_g3
theorem fn124_nq {x : List Int} {g0 : rHp} : fN g0 (fn124 x g0).2.2 := by
  have f_g0 : fN g0 g0 := fN_refl
  show oP (fun h => fN g0 h) (fn124 x g0)
  unfold fn124
  refine oP_dl ?_
  refine oP_dl ?_
  refine oP_dl ?_
  refine oP_dl ?_
  refine oP_ite (fun hb => ?_) (fun hb => ?_)
  · exact f_g0
  · refine oP_ite (fun hb => ?_) (fun hb => ?_)
    · exact f_g0
    · exact f_g0
theorem fn125_nq {x : List Int} {g0 : rHp} : fN g0 (fn125 x g0).2.2 := by
  have f_g0 : fN g0 g0 := fN_refl
  refine zGoo_P (I := fun s => fN g0 s.2.2) fN_zero (fun s hs => ?_) ?_
  · unfold en125
    refine oS_ite (fun hb => ?_) (fun hb => ?_)
    · refine oS_let fun g1 e => ?_
      have f_g1 : fN g0 g1 := by rw [e]; exact hs
      clear e
      refine oS_dl ?_
      refine oS_dl ?_
      refine oS_dl ?_
      refine oS_dl ?_
      refine oS_ite (fun hb => ?_) (fun hb => ?_)
      · exact f_g1
      · refine oS_dl ?_
        refine oS_ite (fun hb => ?_) (fun hb => ?_)
        · exact f_g1
        · refine oS_dl ?_
          refine oS_ite (fun hb => ?_) (fun hb => ?_)
          · exact f_g1
          · exact f_g1
    · exact f_g0
  · unfold dn125
    refine oS_dl ?_
    refine oS_dl ?_
    exact f_g0
theorem fn126_nq {x : List Int} {g0 : rHp} : fN g0 (fn126 x g0).2.2 := by
  have f_g0 : fN g0 g0 := fN_refl
  show oP (fun h => fN g0 h) (fn126 x g0)
  unfold fn126
  refine oP_dl ?_
  refine oP_dl ?_
  refine oP_dl ?_
  refine oP_ite (fun hb => ?_) (fun hb => ?_)
  · refine oP_let fun g1 e => ?_
    have f_g1 : fN g0 g1 := by rw [e]; exact fN_up f_g0 (by decide)
    clear e
    refine oP_let fun g2 e => ?_
    have f_g2 : fN g0 g2 := by rw [e]; exact fN_up f_g1 (by decide)
    clear e
    refine oP_let fun g3 e => ?_
    have f_g3 : fN g0 g3 := by rw [e]; exact fN_up f_g2 (by decide)
    clear e
    exact f_g3
  · exact f_g0
theorem fn127_nq {x : List Int} {g0 : rHp} : fN g0 (fn127 x g0).2.2 := by
  have f_g0 : fN g0 g0 := fN_refl
  refine zGoo_P (I := fun s => fN g0 s.2.2) fN_zero (fun s hs => ?_) ?_
  · unfold en127
    refine oS_ite (fun hb => ?_) (fun hb => ?_)
    · refine oS_let fun g1 e => ?_
      have f_g1 : fN g0 g1 := by rw [e]; exact hs
      clear e
      refine oS_dl ?_
      refine oS_dl ?_
      refine oS_dl ?_
      refine oS_ite (fun hb => ?_) (fun hb => ?_)
      · exact f_g1
      · refine oS_dl ?_
        refine oS_dl ?_
        refine oS_ite (fun hb => ?_) (fun hb => ?_)
        · exact f_g1
        · exact f_g1
    · exact f_g0
  · unfold dn127
    refine oS_dl ?_
    refine oS_dl ?_
    exact f_g0
theorem fn129_nq {x : List Int} {g0 : rHp} : fN g0 (fn129 x g0).2.2 := by
  have f_g0 : fN g0 g0 := fN_refl
  show oP (fun h => fN g0 h) (fn129 x g0)
  unfold fn129
  refine oP_dl ?_
  refine oP_dl ?_
  refine oP_dl ?_
  refine oP_ite (fun hb => ?_) (fun hb => ?_)
  · refine oP_let fun g1 e => ?_
    have f_g1 : fN g0 g1 := by rw [e]; exact fN_up f_g0 (by decide)
    clear e
    refine oP_let fun g2 e => ?_
    have f_g2 : fN g0 g2 := by rw [e]; exact fN_cp f_g1 (by decide)
    clear e
    refine oP_let fun g3 e => ?_
    have f_g3 : fN g0 g3 := by rw [e]; exact fN_up f_g2 (by decide)
    clear e
    exact f_g3
  · exact f_g0
theorem fn130_nq {x : List Int} {g0 : rHp} : fN g0 (fn130 x g0).2.2 := by
  have f_g0 : fN g0 g0 := fN_refl
  show oP (fun h => fN g0 h) (fn130 x g0)
  unfold fn130
  refine oP_dl ?_
  refine oP_dl ?_
  refine oP_ite (fun hb => ?_) (fun hb => ?_)
  · refine oP_let fun g1 e => ?_
    have f_g1 : fN g0 g1 := by rw [e]; exact fN_cp f_g0 (by decide)
    clear e
    refine oP_let fun g2 e => ?_
    have f_g2 : fN g0 g2 := by rw [e]; exact fN_cp f_g1 (by decide)
    clear e
    refine oP_let fun g3 e => ?_
    have f_g3 : fN g0 g3 := by rw [e]; exact fN_up f_g2 (by decide)
    clear e
    exact f_g3
  · exact f_g0
theorem fn131_nq {x : List Int} {g0 : rHp} : fN g0 (fn131 x g0).2.2 := by
  have f_g0 : fN g0 g0 := fN_refl
  show oP (fun h => fN g0 h) (fn131 x g0)
  unfold fn131
  refine oP_dl ?_
  refine oP_dl ?_
  exact f_g0
theorem fn132_nq {x : List Int} {g0 : rHp} : fN g0 (fn132 x g0).2.2 := by
  have f_g0 : fN g0 g0 := fN_refl
  show oP (fun h => fN g0 h) (fn132 x g0)
  unfold fn132
  refine oP_dl ?_
  refine oP_dl ?_
  exact f_g0
theorem fn143_nq {x : List Int} {g0 : rHp} : fN g0 (fn143 x g0).2.2 := by
  have f_g0 : fN g0 g0 := fN_refl
  show oP (fun h => fN g0 h) (fn143 x g0)
  unfold fn143
  refine oP_dl ?_
  refine oP_dl ?_
  refine oP_dl ?_
  refine oP_dl ?_
  refine oP_ite (fun hb => ?_) (fun hb => ?_)
  · refine oP_ite (fun hb => ?_) (fun hb => ?_)
    · exact f_g0
    · exact f_g0
  · refine oP_dl ?_
    refine oP_dl ?_
    refine oP_dl ?_
    refine oP_ite (fun hb => ?_) (fun hb => ?_)
    · exact f_g0
    · exact f_g0
theorem fn160_nq {x : List Int} {g0 : rHp} : fN g0 (fn160 x g0).2.2 := by
  have f_g0 : fN g0 g0 := fN_refl
  show oP (fun h => fN g0 h) (fn160 x g0)
  unfold fn160
  refine oP_dl ?_
  refine oP_ite (fun hb => ?_) (fun hb => ?_)
  · refine oP_let fun g1 e => ?_
    have f_g1 : fN g0 g1 := by rw [e]; exact fN_up f_g0 (by decide)
    clear e
    exact f_g1
  · exact f_g0
theorem fn161_nq {x : List Int} {g0 : rHp} : fN g0 (fn161 x g0).2.2 := by
  have f_g0 : fN g0 g0 := fN_refl
  show oP (fun h => fN g0 h) (fn161 x g0)
  unfold fn161
  refine oP_dl ?_
  refine oP_dl ?_
  refine oP_dl ?_
  refine oP_let fun g1 e => ?_
  have f_g1 : fN g0 g1 := by rw [e]; exact fN_up f_g0 (by decide)
  clear e
  refine oP_let fun g2 e => ?_
  have f_g2 : fN g0 g2 := by rw [e]; exact fN_up f_g1 (by decide)
  clear e
  refine oP_let fun g3 e => ?_
  have f_g3 : fN g0 g3 := by rw [e]; exact fN_up f_g2 (by decide)
  clear e
  exact f_g3
theorem fn162_nq {x : List Int} {g0 : rHp} : fN g0 (fn162 x g0).2.2 := by
  have f_g0 : fN g0 g0 := fN_refl
  show oP (fun h => fN g0 h) (fn162 x g0)
  unfold fn162
  refine oP_dl ?_
  refine oP_let fun g1 e => ?_
  have f_g1 : fN g0 g1 := by rw [e]; exact fN_up f_g0 (by decide)
  clear e
  refine oP_let fun g2 e => ?_
  have f_g2 : fN g0 g2 := by rw [e]; exact fN_up f_g1 (by decide)
  clear e
  exact f_g2
theorem fn115_nq {x : List Int} {g0 : rHp} : fN g0 (fn115 x g0).2.2 := by
  have f_g0 : fN g0 g0 := fN_refl
  refine zGoo_P (I := fun s => fN g0 s.2.2) fN_zero (fun s hs => ?_) ?_
  · unfold en115
    refine oS_ite (fun hb => ?_) (fun hb => ?_)
    · refine oS_let fun g1 e => ?_
      have f_g1 : fN g0 g1 := by rw [e]; exact hs
      clear e
      refine oS_dl ?_
      refine oS_dl ?_
      refine oS_dl ?_
      refine oS_dl ?_
      refine oS_ite (fun hb => ?_) (fun hb => ?_)
      · refine oS_ite (fun hb => ?_) (fun hb => ?_)
        · exact f_g1
        · refine oS_let fun p1 e_p1 => ?_
          refine oS_let fun g2 e => ?_
          have f_g2 : fN g0 g2 := by rw [e, e_p1]; exact fN_tr f_g1 fn109_nq
          clear e
          exact f_g2
      · refine oS_ite (fun hb => ?_) (fun hb => ?_)
        · refine oS_ite (fun hb => ?_) (fun hb => ?_)
          · exact f_g1
          · refine oS_let fun p1 e_p1 => ?_
            refine oS_let fun g2 e => ?_
            have f_g2 : fN g0 g2 := by rw [e, e_p1]; exact fN_tr f_g1 fn109_nq
            clear e
            exact f_g2
        · refine oS_dl ?_
          refine oS_dl ?_
          refine oS_dl ?_
          refine oS_let fun g2 e => ?_
          have f_g2 : fN g0 g2 := by rw [e]; exact fN_up f_g1 (by decide)
          clear e
          refine oS_let fun g3 e => ?_
          have f_g3 : fN g0 g3 := by rw [e]; exact fN_up f_g2 (by decide)
          clear e
          refine oS_ite (fun hb => ?_) (fun hb => ?_)
          · exact f_g3
          · refine oS_dl ?_
            refine oS_let fun p3 e_p3 => ?_
            refine oS_let fun g4 e => ?_
            have f_g4 : fN g0 g4 := by rw [e, e_p3]; exact fN_tr f_g3 fn108_nq
            clear e
            refine oS_dl ?_
            exact f_g4
    · exact f_g0
  · unfold dn115
    refine oS_dl ?_
    refine oS_dl ?_
    refine oS_let fun g1 e => ?_
    have f_g1 : fN g0 g1 := by rw [e]; exact fN_up f_g0 (by decide)
    clear e
    refine oS_dl ?_
    refine oS_dl ?_
    refine oS_let fun g2 e => ?_
    have f_g2 : fN g0 g2 := by rw [e]; exact fN_up f_g1 (by decide)
    clear e
    refine oS_let fun g3 e => ?_
    have f_g3 : fN g0 g3 := by rw [e]; exact fN_up f_g2 (by decide)
    clear e
    refine oS_ite (fun hb => ?_) (fun hb => ?_)
    · exact f_g3
    · refine oS_dl ?_
      refine oS_let fun p3 e_p3 => ?_
      refine oS_let fun g4 e => ?_
      have f_g4 : fN g0 g4 := by rw [e, e_p3]; exact fN_tr f_g3 fn108_nq
      clear e
      refine oS_dl ?_
      exact f_g4
theorem fn147_nq {x : List Int} {g0 : rHp} : fN g0 (fn147 x g0).2.2 := by
  have f_g0 : fN g0 g0 := fN_refl
  refine zGoo_P (I := fun s => fN g0 s.2.2) fN_zero (fun s hs => ?_) ?_
  · unfold en147
    refine oS_ite (fun hb => ?_) (fun hb => ?_)
    · refine oS_let fun g1 e => ?_
      have f_g1 : fN g0 g1 := by rw [e]; exact hs
      clear e
      refine oS_dl ?_
      refine oS_dl ?_
      refine oS_dl ?_
      refine oS_ite (fun hb => ?_) (fun hb => ?_)
      · exact f_g1
      · refine oS_dl ?_
        refine oS_ite (fun hb => ?_) (fun hb => ?_)
        · exact f_g1
        · refine oS_dl ?_
          refine oS_let fun p1 e_p1 => ?_
          refine oS_let fun g2 e => ?_
          have f_g2 : fN g0 g2 := by rw [e, e_p1]; exact fN_tr f_g1 fn109_nq
          clear e
          exact f_g2
    · exact f_g0
  · unfold dn147
    refine oS_dl ?_
    exact f_g0
theorem fn152_nq {x : List Int} {g0 : rHp} : fN g0 (fn152 x g0).2.2 := by
  have f_g0 : fN g0 g0 := fN_refl
  refine zGoo_P (I := fun s => fN g0 s.2.2) fN_zero (fun s hs => ?_) ?_
  · unfold en152
    refine oS_ite (fun hb => ?_) (fun hb => ?_)
    · refine oS_let fun g1 e => ?_
      have f_g1 : fN g0 g1 := by rw [e]; exact hs
      clear e
      refine oS_dl ?_
      refine oS_dl ?_
      refine oS_ite (fun hb => ?_) (fun hb => ?_)
      · exact f_g1
      · refine oS_dl ?_
        refine oS_dl ?_
        refine oS_ite (fun hb => ?_) (fun hb => ?_)
        · exact f_g1
        · refine oS_dl ?_
          refine oS_let fun p1 e_p1 => ?_
          refine oS_let fun g2 e => ?_
          have f_g2 : fN g0 g2 := by rw [e, e_p1]; exact fN_tr f_g1 fn109_nq
          clear e
          exact f_g2
    · exact f_g0
  · unfold dn152
    exact f_g0
theorem fn116_nq {x : List Int} {g0 : rHp} : fN g0 (fn116 x g0).2.2 := by
  have f_g0 : fN g0 g0 := fN_refl
  refine zGoo_P (I := fun s => fN g0 s.2.2) fN_zero (fun s hs => ?_) ?_
  · unfold en116
    refine oS_ite (fun hb => ?_) (fun hb => ?_)
    · refine oS_let fun g1 e => ?_
      have f_g1 : fN g0 g1 := by rw [e]; exact hs
      clear e
      refine oS_dl ?_
      refine oS_dl ?_
      refine oS_dl ?_
      refine oS_dl ?_
      refine oS_dl ?_
      refine oS_ite (fun hb => ?_) (fun hb => ?_)
      · refine oS_ite (fun hb => ?_) (fun hb => ?_)
        · refine oS_let fun p1 e_p1 => ?_
          refine oS_let fun g2 e => ?_
          have f_g2 : fN g0 g2 := by rw [e, e_p1]; exact fN_tr f_g1 fn109_nq
          clear e
          exact f_g2
        · refine oS_ite (fun hb => ?_) (fun hb => ?_)
          · refine oS_ite (fun hb => ?_) (fun hb => ?_)
            · refine oS_dl ?_
              refine oS_let fun g2 e => ?_
              have f_g2 : fN g0 g2 := by rw [e]; exact fN_up f_g1 (by decide)
              clear e
              exact f_g2
            · refine oS_dl ?_
              refine oS_dl ?_
              refine oS_let fun g2 e => ?_
              have f_g2 : fN g0 g2 := by rw [e]; exact fN_up f_g1 (by decide)
              clear e
              exact f_g2
          · refine oS_let fun p1 e_p1 => ?_
            refine oS_let fun g2 e => ?_
            have f_g2 : fN g0 g2 := by rw [e, e_p1]; exact fN_tr f_g1 fn109_nq
            clear e
            exact f_g2
      · refine oS_dl ?_
        refine oS_let fun p1 e_p1 => ?_
        refine oS_let fun g2 e => ?_
        have f_g2 : fN g0 g2 := by rw [e, e_p1]; exact fN_tr f_g1 fn107_nq
        clear e
        refine oS_ite (fun hb => ?_) (fun hb => ?_)
        · refine oS_dl ?_
          refine oS_dl ?_
          refine oS_dl ?_
          refine oS_let fun g3 e => ?_
          have f_g3 : fN g0 g3 := by rw [e]; exact fN_up f_g2 (by decide)
          clear e
          refine oS_let fun g4 e => ?_
          have f_g4 : fN g0 g4 := by rw [e]; exact fN_up f_g3 (by decide)
          clear e
          exact f_g4
        · refine oS_ite (fun hb => ?_) (fun hb => ?_)
          · refine oS_let fun p2 e_p2 => ?_
            refine oS_let fun g3 e => ?_
            have f_g3 : fN g0 g3 := by rw [e, e_p2]; exact fN_tr f_g2 fn109_nq
            clear e
            exact f_g3
          · refine oS_ite (fun hb => ?_) (fun hb => ?_)
            · refine oS_ite (fun hb => ?_) (fun hb => ?_)
              · refine oS_dl ?_
                refine oS_let fun g3 e => ?_
                have f_g3 : fN g0 g3 := by rw [e]; exact fN_up f_g2 (by decide)
                clear e
                exact f_g3
              · refine oS_dl ?_
                refine oS_dl ?_
                refine oS_let fun g3 e => ?_
                have f_g3 : fN g0 g3 := by rw [e]; exact fN_up f_g2 (by decide)
                clear e
                exact f_g3
            · refine oS_let fun p2 e_p2 => ?_
              refine oS_let fun g3 e => ?_
              have f_g3 : fN g0 g3 := by rw [e, e_p2]; exact fN_tr f_g2 fn109_nq
              clear e
              exact f_g3
    · exact f_g0
  · unfold dn116
    refine oS_dl ?_
    refine oS_dl ?_
    refine oS_ite (fun hb => ?_) (fun hb => ?_)
    · refine oS_let fun g1 e => ?_
      have f_g1 : fN g0 g1 := by rw [e]; exact fN_up f_g0 (by decide)
      clear e
      exact f_g1
    · refine oS_dl ?_
      refine oS_ite (fun hb => ?_) (fun hb => ?_)
      · refine oS_let fun g1 e => ?_
        have f_g1 : fN g0 g1 := by rw [e]; exact fN_up f_g0 (by decide)
        clear e
        exact f_g1
      · refine oS_let fun g1 e => ?_
        have f_g1 : fN g0 g1 := by rw [e]; exact fN_up f_g0 (by decide)
        clear e
        refine oS_let fun g2 e => ?_
        have f_g2 : fN g0 g2 := by rw [e]; exact fN_up f_g1 (by decide)
        clear e
        exact f_g2
/-- a number that is read is small -/
theorem fn116_v {x : List Int} {g : rHp} : 1 ≤ (fn116 x g).2.1 → (fn116 x g).2.2 2 0 10 < 1099511627776 := by
  by_cases hn : g 2 0 6 < g 2 0 3
  · have e := fn116_eq x g (p := g 2 0 6) rfl hn rfl rfl rfl
    generalize hf : (if g 21 0 (g 2 0 6) = 45 then g 2 0 6 + 1 else g 2 0 6) = f at e
    generalize (if g 21 0 (g 2 0 6) = 45 then (1 : Int) else 0) = b at e
    by_cases h : pEd pDg (g 21 0) (g 2 0 3) f = f ∨ 7 < pEd pDg (g 21 0) (g 2 0 3) f - f
    · rw [e, if_pos h]
      exact fun w => absurd w (show ¬ (1 : Int) ≤ 0 by decide)
    · rw [e, if_neg h]
      intro _
      dsimp only
      rw [rUp_at]
      have h1 : f ≤ pEd pDg (g 21 0) (g 2 0 3) f := pEd_le
      have dg : ∀ j : Nat, j < (pEd pDg (g 21 0) (g 2 0 3) f - f).toNat → pDg (g 21 0 (f + j)) = true := fun j hj => pEd_in (q := pDg) (t := g 21 0) (n := g 2 0 3) (i := f) (by omega) (by omega)
      have h3 := vK_rg (t := g 21 0) (f := f) (k := (pEd pDg (g 21 0) (g 2 0 3) f - f).toNat) dg
      have h4 := pow10 (k := (pEd pDg (g 21 0) (g 2 0 3) f - f).toNat) (by omega)
      rw [pNv_eq (t := g 21 0) (f := f) (k := (pEd pDg (g 21 0) (g 2 0 3) f - f).toNat) (by omega) dg]
      split
      · omega
      · rw [lneg_n (by omega) (by omega)]
        omega
  · intro w
    exfalso
    have f109 : ∀ (y : List Int) (z : rHp), (fn109 y z).2.1 = 0 ∨ True := fun _ _ => Or.inr trivial
    have e : (fn116 x g).2.1 = 0 := by
      unfold fn116 dn116
      simp only [zLet]
      rw [if_pos (show g 2 0 6 ≥ g 2 0 3 by omega)]
      show (zLoop (en116 g) (0, [g 2 0 6, 0], rUp g 2 0 10 0)).2.1 = 0
      have st : ∃ q, en116 g (0, [g 2 0 6, 0], rUp g 2 0 10 0) = .inr (0, 0, q) := by
        unfold en116
        simp only [zLet, ↓reduceIte, List.getD_cons_zero, List.getD_cons_succ]
        have e6 : rUp g 2 0 10 0 2 0 6 = g 2 0 6 := rUp_ne (by decide)
        rw [if_pos (show rUp g 2 0 10 0 2 0 6 ≥ g 2 0 3 by rw [e6]; omega), if_pos e6]
        exact ⟨_, rfl⟩
      obtain ⟨q, st⟩ := st
      rw [zLoop_inr st]
    rw [e] at w
    exact absurd w (by decide)
theorem fn111_nq {x : List Int} {g0 : rHp} : fN g0 (fn111 x g0).2.2 := by
  have f_g0 : fN g0 g0 := fN_refl
  show oP (fun h => fN g0 h) (fn111 x g0)
  unfold fn111
  refine oP_dl ?_
  refine oP_let fun g1 e => ?_
  have f_g1 : fN g0 g1 := by rw [e]; exact fN_up f_g0 (by decide)
  clear e
  refine oP_let fun g2 e => ?_
  have f_g2 : fN g0 g2 := by rw [e]; exact fN_up f_g1 (by decide)
  clear e
  refine oP_let fun p2 e_p2 => ?_
  refine oP_let fun g3 e => ?_
  have f_g3 : fN g0 g3 := by rw [e, e_p2]; exact fN_tr f_g2 fn110_nq
  clear e
  exact f_g3
theorem fn149_nq {x : List Int} {g0 : rHp} : fN g0 (fn149 x g0).2.2 := by
  have f_g0 : fN g0 g0 := fN_refl
  show oP (fun h => fN g0 h) (fn149 x g0)
  unfold fn149
  refine oP_let fun p0 e_p0 => ?_
  refine oP_let fun g1 e => ?_
  have f_g1 : fN g0 g1 := by rw [e, e_p0]; exact fN_tr f_g0 fn114_nq
  clear e
  refine oP_ite (fun hb => ?_) (fun hb => ?_)
  · refine oP_dl ?_
    refine oP_let fun p1 e_p1 => ?_
    refine oP_let fun g2 e => ?_
    have f_g2 : fN g0 g2 := by rw [e, e_p1]; exact fN_tr f_g1 fn109_nq
    clear e
    exact f_g2
  · exact f_g1
theorem fn151_nq {x : List Int} {g0 : rHp} : fN g0 (fn151 x g0).2.2 := by
  have f_g0 : fN g0 g0 := fN_refl
  show oP (fun h => fN g0 h) (fn151 x g0)
  unfold fn151
  refine oP_dl ?_
  refine oP_dl ?_
  refine oP_dl ?_
  refine oP_dl ?_
  refine oP_let fun p0 e_p0 => ?_
  refine oP_let fun g1 e => ?_
  have f_g1 : fN g0 g1 := by rw [e, e_p0]; exact fN_tr f_g0 fn114_nq
  clear e
  refine oP_ite (fun hb => ?_) (fun hb => ?_)
  · refine oP_dl ?_
    refine oP_dl ?_
    refine oP_ite (fun hb => ?_) (fun hb => ?_)
    · refine oP_let fun g2 e => ?_
      have f_g2 : fN g0 g2 := by rw [e]; exact fN_up f_g1 (by decide)
      clear e
      refine oP_ite (fun hb => ?_) (fun hb => ?_)
      · refine oP_let fun p2 e_p2 => ?_
        refine oP_let fun g3 e => ?_
        have f_g3 : fN g0 g3 := by rw [e, e_p2]; exact fN_tr f_g2 fn109_nq
        clear e
        exact f_g3
      · refine oP_dl ?_
        refine oP_ite (fun hb => ?_) (fun hb => ?_)
        · refine oP_let fun g3 e => ?_
          have f_g3 : fN g0 g3 := by rw [e]; exact fN_up f_g2 (by decide)
          clear e
          refine oP_ite (fun hb => ?_) (fun hb => ?_)
          · exact f_g3
          · refine oP_let fun p3 e_p3 => ?_
            refine oP_let fun g4 e => ?_
            have f_g4 : fN g0 g4 := by rw [e, e_p3]; exact fN_tr f_g3 fn109_nq
            clear e
            exact f_g4
        · refine oP_let fun p2 e_p2 => ?_
          refine oP_let fun g3 e => ?_
          have f_g3 : fN g0 g3 := by rw [e, e_p2]; exact fN_tr f_g2 fn109_nq
          clear e
          exact f_g3
    · refine oP_let fun p1 e_p1 => ?_
      refine oP_let fun g2 e => ?_
      have f_g2 : fN g0 g2 := by rw [e, e_p1]; exact fN_tr f_g1 fn109_nq
      clear e
      exact f_g2
  · refine oP_dl ?_
    refine oP_let fun p1 e_p1 => ?_
    refine oP_let fun g2 e => ?_
    have f_g2 : fN g0 g2 := by rw [e, e_p1]; exact fN_tr f_g1 fn109_nq
    clear e
    exact f_g2
theorem fn154_nq {x : List Int} {g0 : rHp} : fN g0 (fn154 x g0).2.2 := by
  have f_g0 : fN g0 g0 := fN_refl
  show oP (fun h => fN g0 h) (fn154 x g0)
  unfold fn154
  refine oP_dl ?_
  refine oP_dl ?_
  refine oP_dl ?_
  refine oP_dl ?_
  refine oP_let fun p0 e_p0 => ?_
  refine oP_let fun g1 e => ?_
  have f_g1 : fN g0 g1 := by rw [e, e_p0]; exact fN_tr f_g0 fn114_nq
  clear e
  refine oP_ite (fun hb => ?_) (fun hb => ?_)
  · refine oP_dl ?_
    refine oP_dl ?_
    refine oP_ite (fun hb => ?_) (fun hb => ?_)
    · refine oP_let fun g2 e => ?_
      have f_g2 : fN g0 g2 := by rw [e]; exact fN_up f_g1 (by decide)
      clear e
      refine oP_let fun g3 e => ?_
      have f_g3 : fN g0 g3 := by rw [e]; exact fN_up f_g2 (by decide)
      clear e
      refine oP_ite (fun hb => ?_) (fun hb => ?_)
      · exact f_g3
      · refine oP_dl ?_
        refine oP_ite (fun hb => ?_) (fun hb => ?_)
        · exact f_g3
        · refine oP_let fun g4 e => ?_
          have f_g4 : fN g0 g4 := by rw [e]; exact fN_up f_g3 (by decide)
          clear e
          refine oP_let fun g5 e => ?_
          have f_g5 : fN g0 g5 := by rw [e]; exact fN_up f_g4 (by decide)
          clear e
          exact f_g5
    · refine oP_ite (fun hb => ?_) (fun hb => ?_)
      · refine oP_let fun g2 e => ?_
        have f_g2 : fN g0 g2 := by rw [e]; exact fN_up f_g1 (by decide)
        clear e
        refine oP_let fun g3 e => ?_
        have f_g3 : fN g0 g3 := by rw [e]; exact fN_up f_g2 (by decide)
        clear e
        exact f_g3
      · refine oP_let fun p1 e_p1 => ?_
        refine oP_let fun g2 e => ?_
        have f_g2 : fN g0 g2 := by rw [e, e_p1]; exact fN_tr f_g1 fn109_nq
        clear e
        exact f_g2
  · refine oP_dl ?_
    refine oP_let fun p1 e_p1 => ?_
    refine oP_let fun g2 e => ?_
    have f_g2 : fN g0 g2 := by rw [e, e_p1]; exact fN_tr f_g1 fn109_nq
    clear e
    exact f_g2
theorem fn153_nq {x : List Int} {g0 : rHp} : fN g0 (fn153 x g0).2.2 := by
  have f_g0 : fN g0 g0 := fN_refl
  refine zGoo_P (I := fun s => fN g0 s.2.2) fN_zero (fun s hs => ?_) ?_
  · unfold en153
    refine oS_ite (fun hb => ?_) (fun hb => ?_)
    · refine oS_let fun g1 e => ?_
      have f_g1 : fN g0 g1 := by rw [e]; exact hs
      clear e
      refine oS_dl ?_
      refine oS_dl ?_
      refine oS_dl ?_
      refine oS_dl ?_
      refine oS_dl ?_
      refine oS_dl ?_
      refine oS_ite (fun hb => ?_) (fun hb => ?_)
      · exact f_g1
      · refine oS_dl ?_
        refine oS_ite (fun hb => ?_) (fun hb => ?_)
        · refine oS_ite (fun hb => ?_) (fun hb => ?_)
          · exact f_g1
          · refine oS_ite (fun hb => ?_) (fun hb => ?_)
            · exact f_g1
            · refine oS_let fun p1 e_p1 => ?_
              refine oS_let fun g2 e => ?_
              have f_g2 : fN g0 g2 := by rw [e, e_p1]; exact fN_tr f_g1 fn118_nq
              clear e
              refine oS_ite (fun hb => ?_) (fun hb => ?_)
              · exact f_g2
              · refine oS_let fun p2 e_p2 => ?_
                refine oS_let fun g3 e => ?_
                have f_g3 : fN g0 g3 := by rw [e, e_p2]; exact fN_tr f_g2 fn109_nq
                clear e
                exact f_g3
        · refine oS_dl ?_
          refine oS_let fun p1 e_p1 => ?_
          refine oS_let fun g2 e => ?_
          have f_g2 : fN g0 g2 := by rw [e, e_p1]; exact fN_tr f_g1 fn117_nq
          clear e
          refine oS_ite (fun hb => ?_) (fun hb => ?_)
          · exact f_g2
          · refine oS_dl ?_
            refine oS_let fun p2 e_p2 => ?_
            refine oS_let fun g3 e => ?_
            have f_g3 : fN g0 g3 := by rw [e, e_p2]; exact fN_tr f_g2 fn109_nq
            clear e
            exact f_g3
    · exact f_g0
  · unfold dn153
    refine oS_dl ?_
    exact f_g0
theorem fn120_nq {x : List Int} {g0 : rHp} : fN g0 (fn120 x g0).2.2 := by
  have f_g0 : fN g0 g0 := fN_refl
  show oP (fun h => fN g0 h) (fn120 x g0)
  unfold fn120
  refine oP_dl ?_
  refine oP_dl ?_
  refine oP_let fun p0 e_p0 => ?_
  refine oP_let fun g1 e => ?_
  have f_g1 : fN g0 g1 := by rw [e, e_p0]; exact fN_tr f_g0 fn119_nq
  clear e
  refine oP_dl ?_
  refine oP_ite (fun hb => ?_) (fun hb => ?_)
  · refine oP_ite (fun hb => ?_) (fun hb => ?_)
    · refine oP_let fun g2 e => ?_
      have f_g2 : fN g0 g2 := by rw [e]; exact fN_up f_g1 (by decide)
      clear e
      refine oP_let fun g3 e => ?_
      have f_g3 : fN g0 g3 := by rw [e]; exact fN_up f_g2 (by decide)
      clear e
      refine oP_let fun g4 e => ?_
      have f_g4 : fN g0 g4 := by rw [e]; exact fN_up f_g3 (by decide)
      clear e
      exact f_g4
    · exact f_g1
  · refine oP_dl ?_
    refine oP_dl ?_
    refine oP_let fun g2 e => ?_
    have f_g2 : fN g0 g2 := by rw [e]; exact fN_up f_g1 (by decide)
    clear e
    exact f_g2
theorem fn138_nq {x : List Int} {g0 : rHp} : fN g0 (fn138 x g0).2.2 := by
  have f_g0 : fN g0 g0 := fN_refl
  show oP (fun h => fN g0 h) (fn138 x g0)
  unfold fn138
  refine oP_dl ?_
  refine oP_dl ?_
  refine oP_dl ?_
  refine oP_let fun p0 e_p0 => ?_
  refine oP_let fun g1 e => ?_
  have f_g1 : fN g0 g1 := by rw [e, e_p0]; exact fN_tr f_g0 fn119_nq
  clear e
  refine oP_dl ?_
  refine oP_ite (fun hb => ?_) (fun hb => ?_)
  · refine oP_let fun p1 e_p1 => ?_
    refine oP_let fun g2 e => ?_
    have f_g2 : fN g0 g2 := by rw [e, e_p1]; exact fN_tr f_g1 fn109_nq
    clear e
    exact f_g2
  · refine oP_let fun p1 e_p1 => ?_
    refine oP_let fun g2 e => ?_
    have f_g2 : fN g0 g2 := by rw [e, e_p1]; exact fN_tr f_g1 fn117_nq
    clear e
    refine oP_ite (fun hb => ?_) (fun hb => ?_)
    · refine oP_dl ?_
      refine oP_dl ?_
      refine oP_let fun g3 e => ?_
      have f_g3 : fN g0 g3 := by rw [e]; exact fN_up f_g2 (by decide)
      clear e
      refine oP_let fun p3 e_p3 => ?_
      refine oP_let fun g4 e => ?_
      have f_g4 : fN g0 g4 := by rw [e, e_p3]; exact fN_tr f_g3 fn104_n0
      clear e
      exact f_g4
    · refine oP_let fun p2 e_p2 => ?_
      refine oP_let fun g3 e => ?_
      have f_g3 : fN g0 g3 := by rw [e, e_p2]; exact fN_tr f_g2 fn109_nq
      clear e
      exact f_g3
theorem fn133_nq {x : List Int} {g0 : rHp} : fN g0 (fn133 x g0).2.2 := by
  have f_g0 : fN g0 g0 := fN_refl
  show oP (fun h => fN g0 h) (fn133 x g0)
  unfold fn133
  refine oP_dl ?_
  refine oP_dl ?_
  refine oP_dl ?_
  refine oP_dl ?_
  refine oP_dl ?_
  refine oP_dl ?_
  refine oP_let fun p0 e_p0 => ?_
  refine oP_let fun g1 e => ?_
  have f_g1 : fN g0 g1 := by rw [e, e_p0]; exact fN_tr f_g0 fn125_nq
  clear e
  refine oP_dl ?_
  refine oP_let fun g2 e => ?_
  have f_g2 : fN g0 g2 := by rw [e]; exact fN_up f_g1 (by decide)
  clear e
  refine oP_ite (fun hb => ?_) (fun hb => ?_)
  · exact f_g2
  · refine oP_ite (fun hb => ?_) (fun hb => ?_)
    · refine oP_ite (fun hb => ?_) (fun hb => ?_)
      · exact f_g2
      · refine oP_let fun p2 e_p2 => ?_
        refine oP_let fun g3 e => ?_
        have f_g3 : fN g0 g3 := by rw [e, e_p2]; exact fN_tr f_g2 fn109_nq
        clear e
        exact f_g3
    · refine oP_let fun p2 e_p2 => ?_
      refine oP_let fun g3 e => ?_
      have f_g3 : fN g0 g3 := by rw [e, e_p2]; exact fN_tr f_g2 fn126_nq
      clear e
      refine oP_dl ?_
      refine oP_let fun g4 e => ?_
      have f_g4 : fN g0 g4 := by rw [e]; exact fN_up f_g3 (by decide)
      clear e
      refine oP_ite (fun hb => ?_) (fun hb => ?_)
      · exact f_g4
      · refine oP_let fun p4 e_p4 => ?_
        refine oP_let fun g5 e => ?_
        have f_g5 : fN g0 g5 := by rw [e, e_p4]; exact fN_tr f_g4 fn109_nq
        clear e
        exact f_g5
theorem fn134_nq {x : List Int} {g0 : rHp} : fN g0 (fn134 x g0).2.2 := by
  have f_g0 : fN g0 g0 := fN_refl
  show oP (fun h => fN g0 h) (fn134 x g0)
  unfold fn134
  refine oP_dl ?_
  refine oP_dl ?_
  refine oP_dl ?_
  refine oP_dl ?_
  refine oP_dl ?_
  refine oP_dl ?_
  refine oP_dl ?_
  refine oP_let fun p0 e_p0 => ?_
  refine oP_let fun g1 e => ?_
  have f_g1 : fN g0 g1 := by rw [e, e_p0]; exact fN_tr f_g0 fn125_nq
  clear e
  refine oP_dl ?_
  refine oP_let fun g2 e => ?_
  have f_g2 : fN g0 g2 := by rw [e]; exact fN_up f_g1 (by decide)
  clear e
  refine oP_ite (fun hb => ?_) (fun hb => ?_)
  · exact f_g2
  · refine oP_ite (fun hb => ?_) (fun hb => ?_)
    · refine oP_ite (fun hb => ?_) (fun hb => ?_)
      · exact f_g2
      · refine oP_let fun p2 e_p2 => ?_
        refine oP_let fun g3 e => ?_
        have f_g3 : fN g0 g3 := by rw [e, e_p2]; exact fN_tr f_g2 fn109_nq
        clear e
        exact f_g3
    · refine oP_let fun p2 e_p2 => ?_
      refine oP_let fun g3 e => ?_
      have f_g3 : fN g0 g3 := by rw [e, e_p2]; exact fN_tr f_g2 fn126_nq
      clear e
      refine oP_dl ?_
      refine oP_let fun g4 e => ?_
      have f_g4 : fN g0 g4 := by rw [e]; exact fN_up f_g3 (by decide)
      clear e
      refine oP_ite (fun hb => ?_) (fun hb => ?_)
      · exact f_g4
      · refine oP_let fun p4 e_p4 => ?_
        refine oP_let fun g5 e => ?_
        have f_g5 : fN g0 g5 := by rw [e, e_p4]; exact fN_tr f_g4 fn109_nq
        clear e
        exact f_g5
theorem fn128_nq {x : List Int} {g0 : rHp} : fN g0 (fn128 x g0).2.2 := by
  have f_g0 : fN g0 g0 := fN_refl
  refine zGoo_P (I := fun s => fN g0 s.2.2) fN_zero (fun s hs => ?_) ?_
  · unfold en128
    refine oS_ite (fun hb => ?_) (fun hb => ?_)
    · refine oS_let fun g1 e => ?_
      have f_g1 : fN g0 g1 := by rw [e]; exact hs
      clear e
      refine oS_dl ?_
      refine oS_dl ?_
      refine oS_dl ?_
      refine oS_dl ?_
      refine oS_ite (fun hb => ?_) (fun hb => ?_)
      · exact f_g1
      · refine oS_dl ?_
        refine oS_ite (fun hb => ?_) (fun hb => ?_)
        · exact f_g1
        · refine oS_let fun p1 e_p1 => ?_
          refine oS_let fun g2 e => ?_
          have f_g2 : fN g0 g2 := by rw [e, e_p1]; exact fN_tr f_g1 fn127_nq
          clear e
          refine oS_ite (fun hb => ?_) (fun hb => ?_)
          · exact f_g2
          · exact f_g2
    · exact f_g0
  · unfold dn128
    refine oS_dl ?_
    exact f_g0
theorem fn163_nq {x : List Int} {g0 : rHp} : fN g0 (fn163 x g0).2.2 := by
  have f_g0 : fN g0 g0 := fN_refl
  show oP (fun h => fN g0 h) (fn163 x g0)
  unfold fn163
  refine oP_let fun g1 e => ?_
  have f_g1 : fN g0 g1 := by rw [e]; exact fN_up f_g0 (by decide)
  clear e
  refine oP_dl ?_
  refine oP_let fun p1 e_p1 => ?_
  refine oP_let fun g2 e => ?_
  have f_g2 : fN g0 g2 := by rw [e, e_p1]; exact fN_tr f_g1 fn162_nq
  clear e
  exact f_g2
theorem fn148_nq {x : List Int} {g0 : rHp} : fN g0 (fn148 x g0).2.2 := by
  have f_g0 : fN g0 g0 := fN_refl
  show oP (fun h => fN g0 h) (fn148 x g0)
  unfold fn148
  refine oP_dl ?_
  refine oP_let fun p0 e_p0 => ?_
  refine oP_let fun g1 e => ?_
  have f_g1 : fN g0 g1 := by rw [e, e_p0]; exact fN_tr f_g0 fn114_nq
  clear e
  refine oP_ite (fun hb => ?_) (fun hb => ?_)
  · refine oP_dl ?_
    refine oP_dl ?_
    refine oP_ite (fun hb => ?_) (fun hb => ?_)
    · refine oP_let fun g2 e => ?_
      have f_g2 : fN g0 g2 := by rw [e]; exact fN_up f_g1 (by decide)
      clear e
      refine oP_let fun p2 e_p2 => ?_
      refine oP_let fun g3 e => ?_
      have f_g3 : fN g0 g3 := by rw [e, e_p2]; exact fN_tr f_g2 fn147_nq
      clear e
      refine oP_ite (fun hb => ?_) (fun hb => ?_)
      · exact f_g3
      · exact f_g3
    · refine oP_let fun p1 e_p1 => ?_
      refine oP_let fun g2 e => ?_
      have f_g2 : fN g0 g2 := by rw [e, e_p1]; exact fN_tr f_g1 fn109_nq
      clear e
      exact f_g2
  · refine oP_dl ?_
    refine oP_let fun p1 e_p1 => ?_
    refine oP_let fun g2 e => ?_
    have f_g2 : fN g0 g2 := by rw [e, e_p1]; exact fN_tr f_g1 fn109_nq
    clear e
    exact f_g2
theorem fn136_nq {x : List Int} {g0 : rHp} : fN g0 (fn136 x g0).2.2 := by
  have f_g0 : fN g0 g0 := fN_refl
  show oP (fun h => fN g0 h) (fn136 x g0)
  unfold fn136
  refine oP_dl ?_
  refine oP_let fun p0 e_p0 => ?_
  refine oP_let fun g1 e => ?_
  have f_g1 : fN g0 g1 := by rw [e, e_p0]; exact fN_tr f_g0 fn114_nq
  clear e
  refine oP_ite (fun hb => ?_) (fun hb => ?_)
  · refine oP_dl ?_
    refine oP_dl ?_
    refine oP_let fun p1 e_p1 => ?_
    refine oP_let fun g2 e => ?_
    have f_g2 : fN g0 g2 := by rw [e, e_p1]; exact fN_tr f_g1 fn105_nq
    clear e
    refine oP_ite (fun hb => ?_) (fun hb => ?_)
    · refine oP_let fun p2 e_p2 => ?_
      refine oP_let fun g3 e => ?_
      have f_g3 : fN g0 g3 := by rw [e, e_p2]; exact fN_tr f_g2 fn115_nq
      clear e
      refine oP_ite (fun hb => ?_) (fun hb => ?_)
      · refine oP_dl ?_
        refine oP_let fun p3 e_p3 => ?_
        refine oP_let fun g4 e => ?_
        have f_g4 : fN g0 g4 := by rw [e, e_p3]; exact fN_tr f_g3 fn135_nq
        clear e
        refine oP_ite (fun hb => ?_) (fun hb => ?_)
        · exact f_g4
        · exact f_g4
      · exact f_g3
    · refine oP_let fun p2 e_p2 => ?_
      refine oP_let fun g3 e => ?_
      have f_g3 : fN g0 g3 := by rw [e, e_p2]; exact fN_tr f_g2 fn107_nq
      clear e
      refine oP_ite (fun hb => ?_) (fun hb => ?_)
      · refine oP_let fun p3 e_p3 => ?_
        refine oP_let fun g4 e => ?_
        have f_g4 : fN g0 g4 := by rw [e, e_p3]; exact fN_tr f_g3 fn116_nq
        have w_g4 : 1 ≤ p3.2.1 → g4 2 0 10 < 1099511627776 := by rw [e, e_p3]; exact fn116_v
        clear e
        refine oP_ite (fun hb => ?_) (fun hb => ?_)
        · refine oP_dl ?_
          refine oP_let fun p4 e_p4 => ?_
          refine oP_let fun g5 e => ?_
          have f_g5 : fN g0 g5 := by rw [e, e_p4]; exact fN_tr f_g4 (fn104_nv (w_g4 hb))
          clear e
          exact f_g5
        · exact f_g4
      · refine oP_ite (fun hb => ?_) (fun hb => ?_)
        · refine oP_let fun p3 e_p3 => ?_
          refine oP_let fun g4 e => ?_
          have f_g4 : fN g0 g4 := by rw [e, e_p3]; exact fN_tr f_g3 fn116_nq
          have w_g4 : 1 ≤ p3.2.1 → g4 2 0 10 < 1099511627776 := by rw [e, e_p3]; exact fn116_v
          clear e
          refine oP_ite (fun hb => ?_) (fun hb => ?_)
          · refine oP_dl ?_
            refine oP_let fun p4 e_p4 => ?_
            refine oP_let fun g5 e => ?_
            have f_g5 : fN g0 g5 := by rw [e, e_p4]; exact fN_tr f_g4 (fn104_nv (w_g4 hb))
            clear e
            exact f_g5
          · exact f_g4
        · refine oP_let fun p3 e_p3 => ?_
          refine oP_let fun g4 e => ?_
          have f_g4 : fN g0 g4 := by rw [e, e_p3]; exact fN_tr f_g3 fn109_nq
          clear e
          exact f_g4
  · refine oP_dl ?_
    refine oP_let fun p1 e_p1 => ?_
    refine oP_let fun g2 e => ?_
    have f_g2 : fN g0 g2 := by rw [e, e_p1]; exact fN_tr f_g1 fn105_nq
    clear e
    refine oP_let fun p2 e_p2 => ?_
    refine oP_let fun g3 e => ?_
    have f_g3 : fN g0 g3 := by rw [e, e_p2]; exact fN_tr f_g2 fn107_nq
    clear e
    refine oP_let fun p3 e_p3 => ?_
    refine oP_let fun g4 e => ?_
    have f_g4 : fN g0 g4 := by rw [e, e_p3]; exact fN_tr f_g3 fn109_nq
    clear e
    exact f_g4
theorem fn137_nq {x : List Int} {g0 : rHp} : fN g0 (fn137 x g0).2.2 := by
  have f_g0 : fN g0 g0 := fN_refl
  show oP (fun h => fN g0 h) (fn137 x g0)
  unfold fn137
  refine oP_dl ?_
  refine oP_dl ?_
  refine oP_dl ?_
  refine oP_dl ?_
  refine oP_dl ?_
  refine oP_let fun p0 e_p0 => ?_
  refine oP_let fun g1 e => ?_
  have f_g1 : fN g0 g1 := by rw [e, e_p0]; exact fN_tr f_g0 fn120_nq
  clear e
  refine oP_dl ?_
  refine oP_ite (fun hb => ?_) (fun hb => ?_)
  · refine oP_ite (fun hb => ?_) (fun hb => ?_)
    · refine oP_let fun p1 e_p1 => ?_
      refine oP_let fun g2 e => ?_
      have f_g2 : fN g0 g2 := by rw [e, e_p1]; exact fN_tr f_g1 fn104_n0
      clear e
      exact f_g2
    · refine oP_let fun p1 e_p1 => ?_
      refine oP_let fun g2 e => ?_
      have f_g2 : fN g0 g2 := by rw [e, e_p1]; exact fN_tr f_g1 fn117_nq
      clear e
      refine oP_ite (fun hb => ?_) (fun hb => ?_)
      · refine oP_let fun p2 e_p2 => ?_
        refine oP_let fun g3 e => ?_
        have f_g3 : fN g0 g3 := by rw [e, e_p2]; exact fN_tr f_g2 fn104_n0
        clear e
        exact f_g3
      · refine oP_ite (fun hb => ?_) (fun hb => ?_)
        · refine oP_let fun p2 e_p2 => ?_
          refine oP_let fun g3 e => ?_
          have f_g3 : fN g0 g3 := by rw [e, e_p2]; exact fN_tr f_g2 fn104_n0
          clear e
          refine oP_let fun p3 e_p3 => ?_
          refine oP_let fun g4 e => ?_
          have f_g4 : fN g0 g4 := by rw [e, e_p3]; exact fN_tr f_g3 fn121_nq
          clear e
          exact f_g4
        · refine oP_let fun p2 e_p2 => ?_
          refine oP_let fun g3 e => ?_
          have f_g3 : fN g0 g3 := by rw [e, e_p2]; exact fN_tr f_g2 fn104_n0
          clear e
          refine oP_dl ?_
          refine oP_dl ?_
          refine oP_let fun g4 e => ?_
          have f_g4 : fN g0 g4 := by rw [e]; exact fN_up f_g3 (by decide)
          clear e
          exact f_g4
  · refine oP_let fun p1 e_p1 => ?_
    refine oP_let fun g2 e => ?_
    have f_g2 : fN g0 g2 := by rw [e, e_p1]; exact fN_tr f_g1 fn109_nq
    clear e
    exact f_g2
theorem fn140_nq {x : List Int} {g0 : rHp} : fN g0 (fn140 x g0).2.2 := by
  have f_g0 : fN g0 g0 := fN_refl
  show oP (fun h => fN g0 h) (fn140 x g0)
  unfold fn140
  refine oP_dl ?_
  refine oP_dl ?_
  refine oP_dl ?_
  refine oP_dl ?_
  refine oP_dl ?_
  refine oP_ite (fun hb => ?_) (fun hb => ?_)
  · refine oP_let fun g1 e => ?_
    have f_g1 : fN g0 g1 := by rw [e]; exact fN_up f_g0 (by decide)
    clear e
    refine oP_let fun p1 e_p1 => ?_
    refine oP_let fun g2 e => ?_
    have f_g2 : fN g0 g2 := by rw [e, e_p1]; exact fN_tr f_g1 fn104_n0
    clear e
    refine oP_let fun g3 e => ?_
    have f_g3 : fN g0 g3 := by rw [e]; exact fN_up f_g2 (by decide)
    clear e
    refine oP_let fun p3 e_p3 => ?_
    refine oP_let fun g4 e => ?_
    have f_g4 : fN g0 g4 := by rw [e, e_p3]; exact fN_tr f_g3 fn114_nq
    clear e
    refine oP_ite (fun hb => ?_) (fun hb => ?_)
    · refine oP_dl ?_
      refine oP_dl ?_
      refine oP_let fun p4 e_p4 => ?_
      refine oP_let fun g5 e => ?_
      have f_g5 : fN g0 g5 := by rw [e, e_p4]; exact fN_tr f_g4 fn105_nq
      clear e
      refine oP_ite (fun hb => ?_) (fun hb => ?_)
      · refine oP_let fun p5 e_p5 => ?_
        refine oP_let fun g6 e => ?_
        have f_g6 : fN g0 g6 := by rw [e, e_p5]; exact fN_tr f_g5 fn115_nq
        clear e
        refine oP_ite (fun hb => ?_) (fun hb => ?_)
        · refine oP_dl ?_
          refine oP_let fun p6 e_p6 => ?_
          refine oP_let fun g7 e => ?_
          have f_g7 : fN g0 g7 := by rw [e, e_p6]; exact fN_tr f_g6 fn122_nq
          clear e
          refine oP_dl ?_
          refine oP_let fun g8 e => ?_
          have f_g8 : fN g0 g8 := by rw [e]; exact fN_up f_g7 (by decide)
          clear e
          refine oP_ite (fun hb => ?_) (fun hb => ?_)
          · refine oP_ite (fun hb => ?_) (fun hb => ?_)
            · refine oP_let fun p8 e_p8 => ?_
              refine oP_let fun g9 e => ?_
              have f_g9 : fN g0 g9 := by rw [e, e_p8]; exact fN_tr f_g8 fn114_nq
              clear e
              refine oP_ite (fun hb => ?_) (fun hb => ?_)
              · refine oP_dl ?_
                refine oP_dl ?_
                refine oP_let fun p9 e_p9 => ?_
                refine oP_let fun g10 e => ?_
                have f_g10 : fN g0 g10 := by rw [e, e_p9]; exact fN_tr f_g9 fn106_nq
                clear e
                refine oP_ite (fun hb => ?_) (fun hb => ?_)
                · refine oP_let fun p10 e_p10 => ?_
                  refine oP_let fun g11 e => ?_
                  have f_g11 : fN g0 g11 := by rw [e, e_p10]; exact fN_tr f_g10 fn115_nq
                  clear e
                  refine oP_ite (fun hb => ?_) (fun hb => ?_)
                  · refine oP_let fun g12 e => ?_
                    have f_g12 : fN g0 g12 := by rw [e]; exact fN_up f_g11 (by decide)
                    clear e
                    refine oP_dl ?_
                    refine oP_let fun p12 e_p12 => ?_
                    refine oP_let fun g13 e => ?_
                    have f_g13 : fN g0 g13 := by rw [e, e_p12]; exact fN_tr f_g12 fn120_nq
                    clear e
                    refine oP_dl ?_
                    refine oP_let fun g14 e => ?_
                    have f_g14 : fN g0 g14 := by rw [e]; exact fN_up f_g13 (by decide)
                    clear e
                    refine oP_ite (fun hb => ?_) (fun hb => ?_)
                    · exact f_g14
                    · refine oP_let fun p14 e_p14 => ?_
                      refine oP_let fun g15 e => ?_
                      have f_g15 : fN g0 g15 := by rw [e, e_p14]; exact fN_tr f_g14 fn109_nq
                      clear e
                      exact f_g15
                  · exact f_g11
                · refine oP_let fun p10 e_p10 => ?_
                  refine oP_let fun g11 e => ?_
                  have f_g11 : fN g0 g11 := by rw [e, e_p10]; exact fN_tr f_g10 fn109_nq
                  clear e
                  exact f_g11
              · refine oP_dl ?_
                refine oP_let fun p9 e_p9 => ?_
                refine oP_let fun g10 e => ?_
                have f_g10 : fN g0 g10 := by rw [e, e_p9]; exact fN_tr f_g9 fn106_nq
                clear e
                refine oP_let fun p10 e_p10 => ?_
                refine oP_let fun g11 e => ?_
                have f_g11 : fN g0 g11 := by rw [e, e_p10]; exact fN_tr f_g10 fn109_nq
                clear e
                exact f_g11
            · exact f_g8
          · refine oP_let fun p8 e_p8 => ?_
            refine oP_let fun g9 e => ?_
            have f_g9 : fN g0 g9 := by rw [e, e_p8]; exact fN_tr f_g8 fn109_nq
            clear e
            exact f_g9
        · exact f_g6
      · refine oP_let fun p5 e_p5 => ?_
        refine oP_let fun g6 e => ?_
        have f_g6 : fN g0 g6 := by rw [e, e_p5]; exact fN_tr f_g5 fn109_nq
        clear e
        exact f_g6
    · refine oP_dl ?_
      refine oP_let fun p4 e_p4 => ?_
      refine oP_let fun g5 e => ?_
      have f_g5 : fN g0 g5 := by rw [e, e_p4]; exact fN_tr f_g4 fn105_nq
      clear e
      refine oP_let fun p5 e_p5 => ?_
      refine oP_let fun g6 e => ?_
      have f_g6 : fN g0 g6 := by rw [e, e_p5]; exact fN_tr f_g5 fn109_nq
      clear e
      exact f_g6
  · refine oP_let fun p0 e_p0 => ?_
    refine oP_let fun g1 e => ?_
    have f_g1 : fN g0 g1 := by rw [e, e_p0]; exact fN_tr f_g0 fn109_nq
    clear e
    exact f_g1
theorem fn150_nq {x : List Int} {g0 : rHp} : fN g0 (fn150 x g0).2.2 := by
  have f_g0 : fN g0 g0 := fN_refl
  show oP (fun h => fN g0 h) (fn150 x g0)
  unfold fn150
  refine oP_dl ?_
  refine oP_dl ?_
  refine oP_let fun p0 e_p0 => ?_
  refine oP_let fun g1 e => ?_
  have f_g1 : fN g0 g1 := by rw [e, e_p0]; exact fN_tr f_g0 fn148_nq
  clear e
  refine oP_ite (fun hb => ?_) (fun hb => ?_)
  · refine oP_let fun p1 e_p1 => ?_
    refine oP_let fun g2 e => ?_
    have f_g2 : fN g0 g2 := by rw [e, e_p1]; exact fN_tr f_g1 fn128_nq
    clear e
    refine oP_dl ?_
    refine oP_ite (fun hb => ?_) (fun hb => ?_)
    · exact f_g2
    · refine oP_let fun p2 e_p2 => ?_
      refine oP_let fun g3 e => ?_
      have f_g3 : fN g0 g3 := by rw [e, e_p2]; exact fN_tr f_g2 fn129_nq
      clear e
      refine oP_ite (fun hb => ?_) (fun hb => ?_)
      · exact f_g3
      · refine oP_let fun p3 e_p3 => ?_
        refine oP_let fun g4 e => ?_
        have f_g4 : fN g0 g4 := by rw [e, e_p3]; exact fN_tr f_g3 fn109_nq
        clear e
        exact f_g4
  · exact f_g1
theorem fn139_nq {x : List Int} {g0 : rHp} : fN g0 (fn139 x g0).2.2 := by
  have f_g0 : fN g0 g0 := fN_refl
  show oP (fun h => fN g0 h) (fn139 x g0)
  unfold fn139
  refine oP_dl ?_
  refine oP_let fun p0 e_p0 => ?_
  refine oP_let fun g1 e => ?_
  have f_g1 : fN g0 g1 := by rw [e, e_p0]; exact fN_tr f_g0 fn114_nq
  clear e
  refine oP_ite (fun hb => ?_) (fun hb => ?_)
  · refine oP_dl ?_
    refine oP_dl ?_
    refine oP_let fun p1 e_p1 => ?_
    refine oP_let fun g2 e => ?_
    have f_g2 : fN g0 g2 := by rw [e, e_p1]; exact fN_tr f_g1 fn106_nq
    clear e
    refine oP_ite (fun hb => ?_) (fun hb => ?_)
    · refine oP_let fun p2 e_p2 => ?_
      refine oP_let fun g3 e => ?_
      have f_g3 : fN g0 g3 := by rw [e, e_p2]; exact fN_tr f_g2 fn115_nq
      clear e
      refine oP_ite (fun hb => ?_) (fun hb => ?_)
      · refine oP_dl ?_
        refine oP_let fun p3 e_p3 => ?_
        refine oP_let fun g4 e => ?_
        have f_g4 : fN g0 g4 := by rw [e, e_p3]; exact fN_tr f_g3 fn138_nq
        clear e
        refine oP_ite (fun hb => ?_) (fun hb => ?_)
        · exact f_g4
        · exact f_g4
      · exact f_g3
    · refine oP_let fun p2 e_p2 => ?_
      refine oP_let fun g3 e => ?_
      have f_g3 : fN g0 g3 := by rw [e, e_p2]; exact fN_tr f_g2 fn136_nq
      clear e
      refine oP_ite (fun hb => ?_) (fun hb => ?_)
      · exact f_g3
      · exact f_g3
  · refine oP_let fun p1 e_p1 => ?_
    refine oP_let fun g2 e => ?_
    have f_g2 : fN g0 g2 := by rw [e, e_p1]; exact fN_tr f_g1 fn106_nq
    clear e
    refine oP_let fun p2 e_p2 => ?_
    refine oP_let fun g3 e => ?_
    have f_g3 : fN g0 g3 := by rw [e, e_p2]; exact fN_tr f_g2 fn136_nq
    clear e
    exact f_g3
theorem fn142_nq {x : List Int} {g0 : rHp} : fN g0 (fn142 x g0).2.2 := by
  have f_g0 : fN g0 g0 := fN_refl
  show oP (fun h => fN g0 h) (fn142 x g0)
  unfold fn142
  refine oP_dl ?_
  refine oP_dl ?_
  refine oP_dl ?_
  refine oP_let fun p0 e_p0 => ?_
  refine oP_let fun g1 e => ?_
  have f_g1 : fN g0 g1 := by rw [e, e_p0]; exact fN_tr f_g0 fn114_nq
  clear e
  refine oP_ite (fun hb => ?_) (fun hb => ?_)
  · refine oP_dl ?_
    refine oP_dl ?_
    refine oP_let fun p1 e_p1 => ?_
    refine oP_let fun g2 e => ?_
    have f_g2 : fN g0 g2 := by rw [e, e_p1]; exact fN_tr f_g1 fn106_nq
    clear e
    refine oP_ite (fun hb => ?_) (fun hb => ?_)
    · refine oP_let fun p2 e_p2 => ?_
      refine oP_let fun g3 e => ?_
      have f_g3 : fN g0 g3 := by rw [e, e_p2]; exact fN_tr f_g2 fn115_nq
      clear e
      refine oP_ite (fun hb => ?_) (fun hb => ?_)
      · refine oP_let fun p3 e_p3 => ?_
        refine oP_let fun g4 e => ?_
        have f_g4 : fN g0 g4 := by rw [e, e_p3]; exact fN_tr f_g3 fn137_nq
        clear e
        refine oP_ite (fun hb => ?_) (fun hb => ?_)
        · exact f_g4
        · exact f_g4
      · exact f_g3
    · refine oP_ite (fun hb => ?_) (fun hb => ?_)
      · refine oP_ite (fun hb => ?_) (fun hb => ?_)
        · refine oP_let fun p2 e_p2 => ?_
          refine oP_let fun g3 e => ?_
          have f_g3 : fN g0 g3 := by rw [e, e_p2]; exact fN_tr f_g2 fn136_nq
          clear e
          refine oP_ite (fun hb => ?_) (fun hb => ?_)
          · exact f_g3
          · exact f_g3
        · refine oP_let fun p2 e_p2 => ?_
          refine oP_let fun g3 e => ?_
          have f_g3 : fN g0 g3 := by rw [e, e_p2]; exact fN_tr f_g2 fn104_n0
          clear e
          refine oP_let fun g4 e => ?_
          have f_g4 : fN g0 g4 := by rw [e]; exact fN_up f_g3 (by decide)
          clear e
          exact f_g4
      · refine oP_let fun p2 e_p2 => ?_
        refine oP_let fun g3 e => ?_
        have f_g3 : fN g0 g3 := by rw [e, e_p2]; exact fN_tr f_g2 fn136_nq
        clear e
        refine oP_ite (fun hb => ?_) (fun hb => ?_)
        · exact f_g3
        · exact f_g3
  · refine oP_let fun p1 e_p1 => ?_
    refine oP_let fun g2 e => ?_
    have f_g2 : fN g0 g2 := by rw [e, e_p1]; exact fN_tr f_g1 fn106_nq
    clear e
    refine oP_let fun p2 e_p2 => ?_
    refine oP_let fun g3 e => ?_
    have f_g3 : fN g0 g3 := by rw [e, e_p2]; exact fN_tr f_g2 fn136_nq
    clear e
    exact f_g3
theorem fn141_nq {x : List Int} {g0 : rHp} : fN g0 (fn141 x g0).2.2 := by
  have f_g0 : fN g0 g0 := fN_refl
  show oP (fun h => fN g0 h) (fn141 x g0)
  unfold fn141
  refine oP_dl ?_
  refine oP_dl ?_
  refine oP_let fun p0 e_p0 => ?_
  refine oP_let fun g1 e => ?_
  have f_g1 : fN g0 g1 := by rw [e, e_p0]; exact fN_tr f_g0 fn114_nq
  clear e
  refine oP_ite (fun hb => ?_) (fun hb => ?_)
  · refine oP_dl ?_
    refine oP_let fun p1 e_p1 => ?_
    refine oP_let fun g2 e => ?_
    have f_g2 : fN g0 g2 := by rw [e, e_p1]; exact fN_tr f_g1 fn106_nq
    clear e
    refine oP_ite (fun hb => ?_) (fun hb => ?_)
    · refine oP_let fun p2 e_p2 => ?_
      refine oP_let fun g3 e => ?_
      have f_g3 : fN g0 g3 := by rw [e, e_p2]; exact fN_tr f_g2 fn115_nq
      clear e
      refine oP_ite (fun hb => ?_) (fun hb => ?_)
      · refine oP_let fun p3 e_p3 => ?_
        refine oP_let fun g4 e => ?_
        have f_g4 : fN g0 g4 := by rw [e, e_p3]; exact fN_tr f_g3 fn137_nq
        clear e
        refine oP_ite (fun hb => ?_) (fun hb => ?_)
        · exact f_g4
        · exact f_g4
      · exact f_g3
    · refine oP_ite (fun hb => ?_) (fun hb => ?_)
      · refine oP_let fun p2 e_p2 => ?_
        refine oP_let fun g3 e => ?_
        have f_g3 : fN g0 g3 := by rw [e, e_p2]; exact fN_tr f_g2 fn136_nq
        clear e
        refine oP_ite (fun hb => ?_) (fun hb => ?_)
        · exact f_g3
        · exact f_g3
      · refine oP_let fun p2 e_p2 => ?_
        refine oP_let fun g3 e => ?_
        have f_g3 : fN g0 g3 := by rw [e, e_p2]; exact fN_tr f_g2 fn140_nq
        clear e
        refine oP_ite (fun hb => ?_) (fun hb => ?_)
        · exact f_g3
        · exact f_g3
  · refine oP_let fun p1 e_p1 => ?_
    refine oP_let fun g2 e => ?_
    have f_g2 : fN g0 g2 := by rw [e, e_p1]; exact fN_tr f_g1 fn106_nq
    clear e
    refine oP_let fun p2 e_p2 => ?_
    refine oP_let fun g3 e => ?_
    have f_g3 : fN g0 g3 := by rw [e, e_p2]; exact fN_tr f_g2 fn136_nq
    clear e
    exact f_g3
theorem fn155_nq {x : List Int} {g0 : rHp} : fN g0 (fn155 x g0).2.2 := by
  have f_g0 : fN g0 g0 := fN_refl
  show oP (fun h => fN g0 h) (fn155 x g0)
  unfold fn155
  refine oP_dl ?_
  refine oP_dl ?_
  refine oP_dl ?_
  refine oP_dl ?_
  refine oP_dl ?_
  refine oP_let fun p0 e_p0 => ?_
  refine oP_let fun g1 e => ?_
  have f_g1 : fN g0 g1 := by rw [e, e_p0]; exact fN_tr f_g0 fn103_nq
  clear e
  refine oP_let fun p1 e_p1 => ?_
  refine oP_let fun g2 e => ?_
  have f_g2 : fN g0 g2 := by rw [e, e_p1]; exact fN_tr f_g1 fn154_nq
  clear e
  refine oP_ite (fun hb => ?_) (fun hb => ?_)
  · refine oP_let fun p2 e_p2 => ?_
    refine oP_let fun g3 e => ?_
    have f_g3 : fN g0 g3 := by rw [e, e_p2]; exact fN_tr f_g2 fn138_nq
    clear e
    refine oP_ite (fun hb => ?_) (fun hb => ?_)
    · refine oP_let fun p3 e_p3 => ?_
      refine oP_let fun g4 e => ?_
      have f_g4 : fN g0 g4 := by rw [e, e_p3]; exact fN_tr f_g3 fn139_nq
      clear e
      refine oP_ite (fun hb => ?_) (fun hb => ?_)
      · exact f_g4
      · exact f_g4
    · exact f_g3
  · exact f_g2
theorem fn156_nq {x : List Int} {g0 : rHp} : fN g0 (fn156 x g0).2.2 := by
  have f_g0 : fN g0 g0 := fN_refl
  show oP (fun h => fN g0 h) (fn156 x g0)
  unfold fn156
  refine oP_dl ?_
  refine oP_dl ?_
  refine oP_dl ?_
  refine oP_dl ?_
  refine oP_dl ?_
  refine oP_dl ?_
  refine oP_dl ?_
  refine oP_let fun p0 e_p0 => ?_
  refine oP_let fun g1 e => ?_
  have f_g1 : fN g0 g1 := by rw [e, e_p0]; exact fN_tr f_g0 fn115_nq
  clear e
  refine oP_ite (fun hb => ?_) (fun hb => ?_)
  · refine oP_dl ?_
    refine oP_ite (fun hb => ?_) (fun hb => ?_)
    · refine oP_let fun p1 e_p1 => ?_
      refine oP_let fun g2 e => ?_
      have f_g2 : fN g0 g2 := by rw [e, e_p1]; exact fN_tr f_g1 fn103_nq
      clear e
      refine oP_let fun p2 e_p2 => ?_
      refine oP_let fun g3 e => ?_
      have f_g3 : fN g0 g3 := by rw [e, e_p2]; exact fN_tr f_g2 fn120_nq
      clear e
      refine oP_dl ?_
      refine oP_let fun g4 e => ?_
      have f_g4 : fN g0 g4 := by rw [e]; exact fN_up f_g3 (by decide)
      clear e
      refine oP_ite (fun hb => ?_) (fun hb => ?_)
      · refine oP_let fun p4 e_p4 => ?_
        refine oP_let fun g5 e => ?_
        have f_g5 : fN g0 g5 := by rw [e, e_p4]; exact fN_tr f_g4 fn109_nq
        clear e
        exact f_g5
      · refine oP_let fun p4 e_p4 => ?_
        refine oP_let fun g5 e => ?_
        have f_g5 : fN g0 g5 := by rw [e, e_p4]; exact fN_tr f_g4 fn117_nq
        clear e
        refine oP_ite (fun hb => ?_) (fun hb => ?_)
        · refine oP_let fun p5 e_p5 => ?_
          refine oP_let fun g6 e => ?_
          have f_g6 : fN g0 g6 := by rw [e, e_p5]; exact fN_tr f_g5 fn109_nq
          clear e
          exact f_g6
        · refine oP_let fun p5 e_p5 => ?_
          refine oP_let fun g6 e => ?_
          have f_g6 : fN g0 g6 := by rw [e, e_p5]; exact fN_tr f_g5 fn139_nq
          clear e
          refine oP_ite (fun hb => ?_) (fun hb => ?_)
          · refine oP_let fun p6 e_p6 => ?_
            refine oP_let fun g7 e => ?_
            have f_g7 : fN g0 g7 := by rw [e, e_p6]; exact fN_tr f_g6 fn114_nq
            clear e
            refine oP_ite (fun hb => ?_) (fun hb => ?_)
            · refine oP_dl ?_
              refine oP_dl ?_
              refine oP_ite (fun hb => ?_) (fun hb => ?_)
              · refine oP_let fun g8 e => ?_
                have f_g8 : fN g0 g8 := by rw [e]; exact fN_up f_g7 (by decide)
                clear e
                refine oP_let fun g9 e => ?_
                have f_g9 : fN g0 g9 := by rw [e]; exact fN_up f_g8 (by decide)
                clear e
                refine oP_let fun p9 e_p9 => ?_
                refine oP_let fun g10 e => ?_
                have f_g10 : fN g0 g10 := by rw [e, e_p9]; exact fN_tr f_g9 fn139_nq
                clear e
                refine oP_ite (fun hb => ?_) (fun hb => ?_)
                · refine oP_dl ?_
                  refine oP_dl ?_
                  refine oP_let fun g11 e => ?_
                  have f_g11 : fN g0 g11 := by rw [e]; exact fN_up f_g10 (by decide)
                  clear e
                  exact f_g11
                · exact f_g10
              · refine oP_ite (fun hb => ?_) (fun hb => ?_)
                · refine oP_let fun g8 e => ?_
                  have f_g8 : fN g0 g8 := by rw [e]; exact fN_up f_g7 (by decide)
                  clear e
                  refine oP_let fun g9 e => ?_
                  have f_g9 : fN g0 g9 := by rw [e]; exact fN_up f_g8 (by decide)
                  clear e
                  refine oP_let fun p9 e_p9 => ?_
                  refine oP_let fun g10 e => ?_
                  have f_g10 : fN g0 g10 := by rw [e, e_p9]; exact fN_tr f_g9 fn139_nq
                  clear e
                  refine oP_ite (fun hb => ?_) (fun hb => ?_)
                  · refine oP_dl ?_
                    refine oP_dl ?_
                    refine oP_let fun g11 e => ?_
                    have f_g11 : fN g0 g11 := by rw [e]; exact fN_up f_g10 (by decide)
                    clear e
                    exact f_g11
                  · exact f_g10
                · refine oP_ite (fun hb => ?_) (fun hb => ?_)
                  · refine oP_let fun g8 e => ?_
                    have f_g8 : fN g0 g8 := by rw [e]; exact fN_up f_g7 (by decide)
                    clear e
                    refine oP_let fun g9 e => ?_
                    have f_g9 : fN g0 g9 := by rw [e]; exact fN_up f_g8 (by decide)
                    clear e
                    refine oP_let fun p9 e_p9 => ?_
                    refine oP_let fun g10 e => ?_
                    have f_g10 : fN g0 g10 := by rw [e, e_p9]; exact fN_tr f_g9 fn139_nq
                    clear e
                    refine oP_ite (fun hb => ?_) (fun hb => ?_)
                    · refine oP_dl ?_
                      refine oP_dl ?_
                      refine oP_let fun g11 e => ?_
                      have f_g11 : fN g0 g11 := by rw [e]; exact fN_up f_g10 (by decide)
                      clear e
                      exact f_g11
                    · exact f_g10
                  · refine oP_let fun p7 e_p7 => ?_
                    refine oP_let fun g8 e => ?_
                    have f_g8 : fN g0 g8 := by rw [e, e_p7]; exact fN_tr f_g7 fn109_nq
                    clear e
                    exact f_g8
            · refine oP_dl ?_
              refine oP_let fun p7 e_p7 => ?_
              refine oP_let fun g8 e => ?_
              have f_g8 : fN g0 g8 := by rw [e, e_p7]; exact fN_tr f_g7 fn109_nq
              clear e
              exact f_g8
          · exact f_g6
    · refine oP_let fun p1 e_p1 => ?_
      refine oP_let fun g2 e => ?_
      have f_g2 : fN g0 g2 := by rw [e, e_p1]; exact fN_tr f_g1 fn109_nq
      clear e
      exact f_g2
  · exact f_g1
theorem fn145_nq {x : List Int} {g0 : rHp} : fN g0 (fn145 x g0).2.2 := by
  have f_g0 : fN g0 g0 := fN_refl
  refine zGoo_P (I := fun s => fN g0 s.2.2) fN_zero (fun s hs => ?_) ?_
  · unfold en145
    refine oS_ite (fun hb => ?_) (fun hb => ?_)
    · refine oS_let fun g1 e => ?_
      have f_g1 : fN g0 g1 := by rw [e]; exact hs
      clear e
      refine oS_dl ?_
      refine oS_dl ?_
      refine oS_dl ?_
      refine oS_dl ?_
      refine oS_dl ?_
      refine oS_dl ?_
      refine oS_ite (fun hb => ?_) (fun hb => ?_)
      · refine oS_let fun p1 e_p1 => ?_
        refine oS_let fun g2 e => ?_
        have f_g2 : fN g0 g2 := by rw [e, e_p1]; exact fN_tr f_g1 fn114_nq
        clear e
        refine oS_ite (fun hb => ?_) (fun hb => ?_)
        · refine oS_dl ?_
          refine oS_let fun p2 e_p2 => ?_
          refine oS_let fun g3 e => ?_
          have f_g3 : fN g0 g3 := by rw [e, e_p2]; exact fN_tr f_g2 fn109_nq
          clear e
          exact f_g3
        · refine oS_dl ?_
          refine oS_let fun p2 e_p2 => ?_
          refine oS_let fun g3 e => ?_
          have f_g3 : fN g0 g3 := by rw [e, e_p2]; exact fN_tr f_g2 fn109_nq
          clear e
          exact f_g3
      · refine oS_let fun p1 e_p1 => ?_
        refine oS_let fun g2 e => ?_
        have f_g2 : fN g0 g2 := by rw [e, e_p1]; exact fN_tr f_g1 fn142_nq
        clear e
        refine oS_ite (fun hb => ?_) (fun hb => ?_)
        · refine oS_ite (fun hb => ?_) (fun hb => ?_)
          · refine oS_let fun p2 e_p2 => ?_
            refine oS_let fun g3 e => ?_
            have f_g3 : fN g0 g3 := by rw [e, e_p2]; exact fN_tr f_g2 fn114_nq
            clear e
            refine oS_ite (fun hb => ?_) (fun hb => ?_)
            · refine oS_dl ?_
              refine oS_dl ?_
              refine oS_ite (fun hb => ?_) (fun hb => ?_)
              · refine oS_let fun g4 e => ?_
                have f_g4 : fN g0 g4 := by rw [e]; exact fN_up f_g3 (by decide)
                clear e
                refine oS_let fun p4 e_p4 => ?_
                refine oS_let fun g5 e => ?_
                have f_g5 : fN g0 g5 := by rw [e, e_p4]; exact fN_tr f_g4 fn134_nq
                clear e
                refine oS_ite (fun hb => ?_) (fun hb => ?_)
                · exact f_g5
                · exact f_g5
              · refine oS_ite (fun hb => ?_) (fun hb => ?_)
                · refine oS_let fun g4 e => ?_
                  have f_g4 : fN g0 g4 := by rw [e]; exact fN_up f_g3 (by decide)
                  clear e
                  exact f_g4
                · refine oS_let fun p3 e_p3 => ?_
                  refine oS_let fun g4 e => ?_
                  have f_g4 : fN g0 g4 := by rw [e, e_p3]; exact fN_tr f_g3 fn109_nq
                  clear e
                  exact f_g4
            · refine oS_dl ?_
              refine oS_let fun p3 e_p3 => ?_
              refine oS_let fun g4 e => ?_
              have f_g4 : fN g0 g4 := by rw [e, e_p3]; exact fN_tr f_g3 fn109_nq
              clear e
              exact f_g4
          · refine oS_let fun p2 e_p2 => ?_
            refine oS_let fun g3 e => ?_
            have f_g3 : fN g0 g3 := by rw [e, e_p2]; exact fN_tr f_g2 fn143_nq
            clear e
            refine oS_ite (fun hb => ?_) (fun hb => ?_)
            · refine oS_let fun g4 e => ?_
              have f_g4 : fN g0 g4 := by rw [e]; exact fN_up f_g3 (by decide)
              clear e
              refine oS_let fun p4 e_p4 => ?_
              refine oS_let fun g5 e => ?_
              have f_g5 : fN g0 g5 := by rw [e, e_p4]; exact fN_tr f_g4 fn114_nq
              clear e
              refine oS_ite (fun hb => ?_) (fun hb => ?_)
              · refine oS_dl ?_
                refine oS_dl ?_
                refine oS_ite (fun hb => ?_) (fun hb => ?_)
                · refine oS_let fun g6 e => ?_
                  have f_g6 : fN g0 g6 := by rw [e]; exact fN_up f_g5 (by decide)
                  clear e
                  refine oS_let fun p6 e_p6 => ?_
                  refine oS_let fun g7 e => ?_
                  have f_g7 : fN g0 g7 := by rw [e, e_p6]; exact fN_tr f_g6 fn134_nq
                  clear e
                  refine oS_ite (fun hb => ?_) (fun hb => ?_)
                  · exact f_g7
                  · exact f_g7
                · refine oS_ite (fun hb => ?_) (fun hb => ?_)
                  · refine oS_let fun g6 e => ?_
                    have f_g6 : fN g0 g6 := by rw [e]; exact fN_up f_g5 (by decide)
                    clear e
                    exact f_g6
                  · refine oS_let fun p5 e_p5 => ?_
                    refine oS_let fun g6 e => ?_
                    have f_g6 : fN g0 g6 := by rw [e, e_p5]; exact fN_tr f_g5 fn109_nq
                    clear e
                    exact f_g6
              · refine oS_dl ?_
                refine oS_let fun p5 e_p5 => ?_
                refine oS_let fun g6 e => ?_
                have f_g6 : fN g0 g6 := by rw [e, e_p5]; exact fN_tr f_g5 fn109_nq
                clear e
                exact f_g6
            · refine oS_let fun p3 e_p3 => ?_
              refine oS_let fun g4 e => ?_
              have f_g4 : fN g0 g4 := by rw [e, e_p3]; exact fN_tr f_g3 fn114_nq
              clear e
              refine oS_ite (fun hb => ?_) (fun hb => ?_)
              · refine oS_dl ?_
                refine oS_dl ?_
                refine oS_ite (fun hb => ?_) (fun hb => ?_)
                · refine oS_let fun g5 e => ?_
                  have f_g5 : fN g0 g5 := by rw [e]; exact fN_up f_g4 (by decide)
                  clear e
                  refine oS_let fun p5 e_p5 => ?_
                  refine oS_let fun g6 e => ?_
                  have f_g6 : fN g0 g6 := by rw [e, e_p5]; exact fN_tr f_g5 fn134_nq
                  clear e
                  refine oS_ite (fun hb => ?_) (fun hb => ?_)
                  · exact f_g6
                  · exact f_g6
                · refine oS_ite (fun hb => ?_) (fun hb => ?_)
                  · refine oS_let fun g5 e => ?_
                    have f_g5 : fN g0 g5 := by rw [e]; exact fN_up f_g4 (by decide)
                    clear e
                    exact f_g5
                  · refine oS_let fun p4 e_p4 => ?_
                    refine oS_let fun g5 e => ?_
                    have f_g5 : fN g0 g5 := by rw [e, e_p4]; exact fN_tr f_g4 fn109_nq
                    clear e
                    exact f_g5
              · refine oS_dl ?_
                refine oS_let fun p4 e_p4 => ?_
                refine oS_let fun g5 e => ?_
                have f_g5 : fN g0 g5 := by rw [e, e_p4]; exact fN_tr f_g4 fn109_nq
                clear e
                exact f_g5
        · exact f_g2
    · exact f_g0
  · unfold dn145
    refine oS_dl ?_
    refine oS_dl ?_
    refine oS_dl ?_
    refine oS_let fun p0 e_p0 => ?_
    refine oS_let fun g1 e => ?_
    have f_g1 : fN g0 g1 := by rw [e, e_p0]; exact fN_tr f_g0 fn103_nq
    clear e
    refine oS_let fun p1 e_p1 => ?_
    refine oS_let fun g2 e => ?_
    have f_g2 : fN g0 g2 := by rw [e, e_p1]; exact fN_tr f_g1 fn114_nq
    clear e
    refine oS_ite (fun hb => ?_) (fun hb => ?_)
    · refine oS_dl ?_
      refine oS_dl ?_
      refine oS_ite (fun hb => ?_) (fun hb => ?_)
      · refine oS_let fun g3 e => ?_
        have f_g3 : fN g0 g3 := by rw [e]; exact fN_up f_g2 (by decide)
        clear e
        exact f_g3
      · refine oS_let fun p2 e_p2 => ?_
        refine oS_let fun g3 e => ?_
        have f_g3 : fN g0 g3 := by rw [e, e_p2]; exact fN_tr f_g2 fn109_nq
        clear e
        exact f_g3
    · refine oS_dl ?_
      refine oS_let fun p2 e_p2 => ?_
      refine oS_let fun g3 e => ?_
      have f_g3 : fN g0 g3 := by rw [e, e_p2]; exact fN_tr f_g2 fn109_nq
      clear e
      exact f_g3
theorem fn144_nq {x : List Int} {g0 : rHp} : fN g0 (fn144 x g0).2.2 := by
  have f_g0 : fN g0 g0 := fN_refl
  refine zGoo_P (I := fun s => fN g0 s.2.2) fN_zero (fun s hs => ?_) ?_
  · unfold en144
    refine oS_ite (fun hb => ?_) (fun hb => ?_)
    · refine oS_let fun g1 e => ?_
      have f_g1 : fN g0 g1 := by rw [e]; exact hs
      clear e
      refine oS_dl ?_
      refine oS_dl ?_
      refine oS_dl ?_
      refine oS_dl ?_
      refine oS_dl ?_
      refine oS_ite (fun hb => ?_) (fun hb => ?_)
      · refine oS_let fun p1 e_p1 => ?_
        refine oS_let fun g2 e => ?_
        have f_g2 : fN g0 g2 := by rw [e, e_p1]; exact fN_tr f_g1 fn114_nq
        clear e
        refine oS_ite (fun hb => ?_) (fun hb => ?_)
        · refine oS_dl ?_
          refine oS_let fun p2 e_p2 => ?_
          refine oS_let fun g3 e => ?_
          have f_g3 : fN g0 g3 := by rw [e, e_p2]; exact fN_tr f_g2 fn109_nq
          clear e
          exact f_g3
        · refine oS_dl ?_
          refine oS_let fun p2 e_p2 => ?_
          refine oS_let fun g3 e => ?_
          have f_g3 : fN g0 g3 := by rw [e, e_p2]; exact fN_tr f_g2 fn109_nq
          clear e
          exact f_g3
      · refine oS_let fun p1 e_p1 => ?_
        refine oS_let fun g2 e => ?_
        have f_g2 : fN g0 g2 := by rw [e, e_p1]; exact fN_tr f_g1 fn141_nq
        clear e
        refine oS_ite (fun hb => ?_) (fun hb => ?_)
        · refine oS_ite (fun hb => ?_) (fun hb => ?_)
          · refine oS_let fun p2 e_p2 => ?_
            refine oS_let fun g3 e => ?_
            have f_g3 : fN g0 g3 := by rw [e, e_p2]; exact fN_tr f_g2 fn114_nq
            clear e
            refine oS_ite (fun hb => ?_) (fun hb => ?_)
            · refine oS_dl ?_
              refine oS_dl ?_
              refine oS_ite (fun hb => ?_) (fun hb => ?_)
              · refine oS_let fun g4 e => ?_
                have f_g4 : fN g0 g4 := by rw [e]; exact fN_up f_g3 (by decide)
                clear e
                refine oS_let fun p4 e_p4 => ?_
                refine oS_let fun g5 e => ?_
                have f_g5 : fN g0 g5 := by rw [e, e_p4]; exact fN_tr f_g4 fn133_nq
                clear e
                refine oS_ite (fun hb => ?_) (fun hb => ?_)
                · exact f_g5
                · exact f_g5
              · refine oS_ite (fun hb => ?_) (fun hb => ?_)
                · refine oS_let fun g4 e => ?_
                  have f_g4 : fN g0 g4 := by rw [e]; exact fN_up f_g3 (by decide)
                  clear e
                  exact f_g4
                · refine oS_let fun p3 e_p3 => ?_
                  refine oS_let fun g4 e => ?_
                  have f_g4 : fN g0 g4 := by rw [e, e_p3]; exact fN_tr f_g3 fn109_nq
                  clear e
                  exact f_g4
            · refine oS_dl ?_
              refine oS_let fun p3 e_p3 => ?_
              refine oS_let fun g4 e => ?_
              have f_g4 : fN g0 g4 := by rw [e, e_p3]; exact fN_tr f_g3 fn109_nq
              clear e
              exact f_g4
          · refine oS_let fun p2 e_p2 => ?_
            refine oS_let fun g3 e => ?_
            have f_g3 : fN g0 g3 := by rw [e, e_p2]; exact fN_tr f_g2 fn143_nq
            clear e
            refine oS_ite (fun hb => ?_) (fun hb => ?_)
            · refine oS_let fun g4 e => ?_
              have f_g4 : fN g0 g4 := by rw [e]; exact fN_up f_g3 (by decide)
              clear e
              refine oS_let fun p4 e_p4 => ?_
              refine oS_let fun g5 e => ?_
              have f_g5 : fN g0 g5 := by rw [e, e_p4]; exact fN_tr f_g4 fn114_nq
              clear e
              refine oS_ite (fun hb => ?_) (fun hb => ?_)
              · refine oS_dl ?_
                refine oS_dl ?_
                refine oS_ite (fun hb => ?_) (fun hb => ?_)
                · refine oS_let fun g6 e => ?_
                  have f_g6 : fN g0 g6 := by rw [e]; exact fN_up f_g5 (by decide)
                  clear e
                  refine oS_let fun p6 e_p6 => ?_
                  refine oS_let fun g7 e => ?_
                  have f_g7 : fN g0 g7 := by rw [e, e_p6]; exact fN_tr f_g6 fn133_nq
                  clear e
                  refine oS_ite (fun hb => ?_) (fun hb => ?_)
                  · exact f_g7
                  · exact f_g7
                · refine oS_ite (fun hb => ?_) (fun hb => ?_)
                  · refine oS_let fun g6 e => ?_
                    have f_g6 : fN g0 g6 := by rw [e]; exact fN_up f_g5 (by decide)
                    clear e
                    exact f_g6
                  · refine oS_let fun p5 e_p5 => ?_
                    refine oS_let fun g6 e => ?_
                    have f_g6 : fN g0 g6 := by rw [e, e_p5]; exact fN_tr f_g5 fn109_nq
                    clear e
                    exact f_g6
              · refine oS_dl ?_
                refine oS_let fun p5 e_p5 => ?_
                refine oS_let fun g6 e => ?_
                have f_g6 : fN g0 g6 := by rw [e, e_p5]; exact fN_tr f_g5 fn109_nq
                clear e
                exact f_g6
            · refine oS_let fun p3 e_p3 => ?_
              refine oS_let fun g4 e => ?_
              have f_g4 : fN g0 g4 := by rw [e, e_p3]; exact fN_tr f_g3 fn114_nq
              clear e
              refine oS_ite (fun hb => ?_) (fun hb => ?_)
              · refine oS_dl ?_
                refine oS_dl ?_
                refine oS_ite (fun hb => ?_) (fun hb => ?_)
                · refine oS_let fun g5 e => ?_
                  have f_g5 : fN g0 g5 := by rw [e]; exact fN_up f_g4 (by decide)
                  clear e
                  refine oS_let fun p5 e_p5 => ?_
                  refine oS_let fun g6 e => ?_
                  have f_g6 : fN g0 g6 := by rw [e, e_p5]; exact fN_tr f_g5 fn133_nq
                  clear e
                  refine oS_ite (fun hb => ?_) (fun hb => ?_)
                  · exact f_g6
                  · exact f_g6
                · refine oS_ite (fun hb => ?_) (fun hb => ?_)
                  · refine oS_let fun g5 e => ?_
                    have f_g5 : fN g0 g5 := by rw [e]; exact fN_up f_g4 (by decide)
                    clear e
                    exact f_g5
                  · refine oS_let fun p4 e_p4 => ?_
                    refine oS_let fun g5 e => ?_
                    have f_g5 : fN g0 g5 := by rw [e, e_p4]; exact fN_tr f_g4 fn109_nq
                    clear e
                    exact f_g5
              · refine oS_dl ?_
                refine oS_let fun p4 e_p4 => ?_
                refine oS_let fun g5 e => ?_
                have f_g5 : fN g0 g5 := by rw [e, e_p4]; exact fN_tr f_g4 fn109_nq
                clear e
                exact f_g5
        · exact f_g2
    · exact f_g0
  · unfold dn144
    refine oS_dl ?_
    refine oS_dl ?_
    refine oS_let fun p0 e_p0 => ?_
    refine oS_let fun g1 e => ?_
    have f_g1 : fN g0 g1 := by rw [e, e_p0]; exact fN_tr f_g0 fn102_nq
    clear e
    refine oS_let fun p1 e_p1 => ?_
    refine oS_let fun g2 e => ?_
    have f_g2 : fN g0 g2 := by rw [e, e_p1]; exact fN_tr f_g1 fn114_nq
    clear e
    refine oS_ite (fun hb => ?_) (fun hb => ?_)
    · refine oS_dl ?_
      refine oS_dl ?_
      refine oS_ite (fun hb => ?_) (fun hb => ?_)
      · refine oS_let fun g3 e => ?_
        have f_g3 : fN g0 g3 := by rw [e]; exact fN_up f_g2 (by decide)
        clear e
        exact f_g3
      · refine oS_let fun p2 e_p2 => ?_
        refine oS_let fun g3 e => ?_
        have f_g3 : fN g0 g3 := by rw [e, e_p2]; exact fN_tr f_g2 fn109_nq
        clear e
        exact f_g3
    · refine oS_dl ?_
      refine oS_let fun p2 e_p2 => ?_
      refine oS_let fun g3 e => ?_
      have f_g3 : fN g0 g3 := by rw [e, e_p2]; exact fN_tr f_g2 fn109_nq
      clear e
      exact f_g3
theorem fn157_nq {x : List Int} {g0 : rHp} : fN g0 (fn157 x g0).2.2 := by
  have f_g0 : fN g0 g0 := fN_refl
  show oP (fun h => fN g0 h) (fn157 x g0)
  unfold fn157
  refine oP_dl ?_
  refine oP_dl ?_
  refine oP_dl ?_
  refine oP_let fun p0 e_p0 => ?_
  refine oP_let fun g1 e => ?_
  have f_g1 : fN g0 g1 := by rw [e, e_p0]; exact fN_tr f_g0 fn114_nq
  clear e
  refine oP_ite (fun hb => ?_) (fun hb => ?_)
  · refine oP_dl ?_
    refine oP_dl ?_
    refine oP_ite (fun hb => ?_) (fun hb => ?_)
    · refine oP_let fun p1 e_p1 => ?_
      refine oP_let fun g2 e => ?_
      have f_g2 : fN g0 g2 := by rw [e, e_p1]; exact fN_tr f_g1 fn106_nq
      clear e
      refine oP_ite (fun hb => ?_) (fun hb => ?_)
      · refine oP_let fun p2 e_p2 => ?_
        refine oP_let fun g3 e => ?_
        have f_g3 : fN g0 g3 := by rw [e, e_p2]; exact fN_tr f_g2 fn115_nq
        clear e
        refine oP_ite (fun hb => ?_) (fun hb => ?_)
        · refine oP_let fun p3 e_p3 => ?_
          refine oP_let fun g4 e => ?_
          have f_g4 : fN g0 g4 := by rw [e, e_p3]; exact fN_tr f_g3 fn114_nq
          clear e
          refine oP_ite (fun hb => ?_) (fun hb => ?_)
          · refine oP_dl ?_
            refine oP_let fun p4 e_p4 => ?_
            refine oP_let fun g5 e => ?_
            have f_g5 : fN g0 g5 := by rw [e, e_p4]; exact fN_tr f_g4 fn105_nq
            clear e
            refine oP_ite (fun hb => ?_) (fun hb => ?_)
            · refine oP_dl ?_
              refine oP_let fun p5 e_p5 => ?_
              refine oP_let fun g6 e => ?_
              have f_g6 : fN g0 g6 := by rw [e, e_p5]; exact fN_tr f_g5 fn156_nq
              clear e
              refine oP_ite (fun hb => ?_) (fun hb => ?_)
              · exact f_g6
              · exact f_g6
            · refine oP_dl ?_
              refine oP_let fun p5 e_p5 => ?_
              refine oP_let fun g6 e => ?_
              have f_g6 : fN g0 g6 := by rw [e, e_p5]; exact fN_tr f_g5 fn155_nq
              clear e
              refine oP_ite (fun hb => ?_) (fun hb => ?_)
              · exact f_g6
              · exact f_g6
          · refine oP_let fun p4 e_p4 => ?_
            refine oP_let fun g5 e => ?_
            have f_g5 : fN g0 g5 := by rw [e, e_p4]; exact fN_tr f_g4 fn105_nq
            clear e
            refine oP_dl ?_
            refine oP_let fun p5 e_p5 => ?_
            refine oP_let fun g6 e => ?_
            have f_g6 : fN g0 g6 := by rw [e, e_p5]; exact fN_tr f_g5 fn155_nq
            clear e
            exact f_g6
        · exact f_g3
      · refine oP_let fun p2 e_p2 => ?_
        refine oP_let fun g3 e => ?_
        have f_g3 : fN g0 g3 := by rw [e, e_p2]; exact fN_tr f_g2 fn105_nq
        clear e
        refine oP_ite (fun hb => ?_) (fun hb => ?_)
        · refine oP_let fun p3 e_p3 => ?_
          refine oP_let fun g4 e => ?_
          have f_g4 : fN g0 g4 := by rw [e, e_p3]; exact fN_tr f_g3 fn115_nq
          clear e
          refine oP_ite (fun hb => ?_) (fun hb => ?_)
          · refine oP_let fun p4 e_p4 => ?_
            refine oP_let fun g5 e => ?_
            have f_g5 : fN g0 g5 := by rw [e, e_p4]; exact fN_tr f_g4 fn114_nq
            clear e
            refine oP_ite (fun hb => ?_) (fun hb => ?_)
            · refine oP_dl ?_
              refine oP_ite (fun hb => ?_) (fun hb => ?_)
              · refine oP_let fun p5 e_p5 => ?_
                refine oP_let fun g6 e => ?_
                have f_g6 : fN g0 g6 := by rw [e, e_p5]; exact fN_tr f_g5 fn103_nq
                clear e
                refine oP_dl ?_
                refine oP_let fun p6 e_p6 => ?_
                refine oP_let fun g7 e => ?_
                have f_g7 : fN g0 g7 := by rw [e, e_p6]; exact fN_tr f_g6 fn135_nq
                clear e
                refine oP_ite (fun hb => ?_) (fun hb => ?_)
                · refine oP_let fun p7 e_p7 => ?_
                  refine oP_let fun g8 e => ?_
                  have f_g8 : fN g0 g8 := by rw [e, e_p7]; exact fN_tr f_g7 fn154_nq
                  clear e
                  refine oP_ite (fun hb => ?_) (fun hb => ?_)
                  · refine oP_let fun p8 e_p8 => ?_
                    refine oP_let fun g9 e => ?_
                    have f_g9 : fN g0 g9 := by rw [e, e_p8]; exact fN_tr f_g8 fn139_nq
                    clear e
                    refine oP_ite (fun hb => ?_) (fun hb => ?_)
                    · exact f_g9
                    · exact f_g9
                  · exact f_g8
                · exact f_g7
              · refine oP_let fun p5 e_p5 => ?_
                refine oP_let fun g6 e => ?_
                have f_g6 : fN g0 g6 := by rw [e, e_p5]; exact fN_tr f_g5 fn145_nq
                clear e
                refine oP_ite (fun hb => ?_) (fun hb => ?_)
                · exact f_g6
                · exact f_g6
            · refine oP_let fun p5 e_p5 => ?_
              refine oP_let fun g6 e => ?_
              have f_g6 : fN g0 g6 := by rw [e, e_p5]; exact fN_tr f_g5 fn103_nq
              clear e
              refine oP_dl ?_
              refine oP_let fun p6 e_p6 => ?_
              refine oP_let fun g7 e => ?_
              have f_g7 : fN g0 g7 := by rw [e, e_p6]; exact fN_tr f_g6 fn135_nq
              clear e
              refine oP_ite (fun hb => ?_) (fun hb => ?_)
              · refine oP_let fun p7 e_p7 => ?_
                refine oP_let fun g8 e => ?_
                have f_g8 : fN g0 g8 := by rw [e, e_p7]; exact fN_tr f_g7 fn154_nq
                clear e
                exact f_g8
              · exact f_g7
          · exact f_g4
        · refine oP_let fun p3 e_p3 => ?_
          refine oP_let fun g4 e => ?_
          have f_g4 : fN g0 g4 := by rw [e, e_p3]; exact fN_tr f_g3 fn107_nq
          clear e
          refine oP_ite (fun hb => ?_) (fun hb => ?_)
          · refine oP_let fun p4 e_p4 => ?_
            refine oP_let fun g5 e => ?_
            have f_g5 : fN g0 g5 := by rw [e, e_p4]; exact fN_tr f_g4 fn116_nq
            have w_g5 : 1 ≤ p4.2.1 → g5 2 0 10 < 1099511627776 := by rw [e, e_p4]; exact fn116_v
            clear e
            refine oP_ite (fun hb => ?_) (fun hb => ?_)
            · refine oP_let fun p5 e_p5 => ?_
              refine oP_let fun g6 e => ?_
              have f_g6 : fN g0 g6 := by rw [e, e_p5]; exact fN_tr f_g5 fn103_nq
              clear e
              refine oP_dl ?_
              refine oP_let fun p6 e_p6 => ?_
              refine oP_let fun g7 e => ?_
              have f_g7 : fN g0 g7 := by rw [e, e_p6]; exact fN_tr f_g6 (fn104_nv (w_g5 hb))
              clear e
              refine oP_let fun p7 e_p7 => ?_
              refine oP_let fun g8 e => ?_
              have f_g8 : fN g0 g8 := by rw [e, e_p7]; exact fN_tr f_g7 fn154_nq
              clear e
              refine oP_ite (fun hb => ?_) (fun hb => ?_)
              · refine oP_let fun p8 e_p8 => ?_
                refine oP_let fun g9 e => ?_
                have f_g9 : fN g0 g9 := by rw [e, e_p8]; exact fN_tr f_g8 fn139_nq
                clear e
                refine oP_ite (fun hb => ?_) (fun hb => ?_)
                · exact f_g9
                · exact f_g9
              · exact f_g8
            · exact f_g5
          · refine oP_ite (fun hb => ?_) (fun hb => ?_)
            · refine oP_let fun p4 e_p4 => ?_
              refine oP_let fun g5 e => ?_
              have f_g5 : fN g0 g5 := by rw [e, e_p4]; exact fN_tr f_g4 fn116_nq
              have w_g5 : 1 ≤ p4.2.1 → g5 2 0 10 < 1099511627776 := by rw [e, e_p4]; exact fn116_v
              clear e
              refine oP_ite (fun hb => ?_) (fun hb => ?_)
              · refine oP_let fun p5 e_p5 => ?_
                refine oP_let fun g6 e => ?_
                have f_g6 : fN g0 g6 := by rw [e, e_p5]; exact fN_tr f_g5 fn103_nq
                clear e
                refine oP_dl ?_
                refine oP_let fun p6 e_p6 => ?_
                refine oP_let fun g7 e => ?_
                have f_g7 : fN g0 g7 := by rw [e, e_p6]; exact fN_tr f_g6 (fn104_nv (w_g5 hb))
                clear e
                refine oP_let fun p7 e_p7 => ?_
                refine oP_let fun g8 e => ?_
                have f_g8 : fN g0 g8 := by rw [e, e_p7]; exact fN_tr f_g7 fn154_nq
                clear e
                refine oP_ite (fun hb => ?_) (fun hb => ?_)
                · refine oP_let fun p8 e_p8 => ?_
                  refine oP_let fun g9 e => ?_
                  have f_g9 : fN g0 g9 := by rw [e, e_p8]; exact fN_tr f_g8 fn139_nq
                  clear e
                  refine oP_ite (fun hb => ?_) (fun hb => ?_)
                  · exact f_g9
                  · exact f_g9
                · exact f_g8
              · exact f_g5
            · refine oP_let fun p4 e_p4 => ?_
              refine oP_let fun g5 e => ?_
              have f_g5 : fN g0 g5 := by rw [e, e_p4]; exact fN_tr f_g4 fn109_nq
              clear e
              exact f_g5
    · refine oP_let fun g2 e => ?_
      have f_g2 : fN g0 g2 := by rw [e]; exact fN_up f_g1 (by decide)
      clear e
      refine oP_let fun p2 e_p2 => ?_
      refine oP_let fun g3 e => ?_
      have f_g3 : fN g0 g3 := by rw [e, e_p2]; exact fN_tr f_g2 fn114_nq
      clear e
      refine oP_ite (fun hb => ?_) (fun hb => ?_)
      · refine oP_dl ?_
        refine oP_dl ?_
        refine oP_let fun p3 e_p3 => ?_
        refine oP_let fun g4 e => ?_
        have f_g4 : fN g0 g4 := by rw [e, e_p3]; exact fN_tr f_g3 fn105_nq
        clear e
        refine oP_ite (fun hb => ?_) (fun hb => ?_)
        · refine oP_let fun p4 e_p4 => ?_
          refine oP_let fun g5 e => ?_
          have f_g5 : fN g0 g5 := by rw [e, e_p4]; exact fN_tr f_g4 fn115_nq
          clear e
          refine oP_ite (fun hb => ?_) (fun hb => ?_)
          · refine oP_let fun p5 e_p5 => ?_
            refine oP_let fun g6 e => ?_
            have f_g6 : fN g0 g6 := by rw [e, e_p5]; exact fN_tr f_g5 fn145_nq
            clear e
            refine oP_ite (fun hb => ?_) (fun hb => ?_)
            · exact f_g6
            · exact f_g6
          · exact f_g5
        · refine oP_let fun p4 e_p4 => ?_
          refine oP_let fun g5 e => ?_
          have f_g5 : fN g0 g5 := by rw [e, e_p4]; exact fN_tr f_g4 fn109_nq
          clear e
          exact f_g5
      · refine oP_dl ?_
        refine oP_let fun p3 e_p3 => ?_
        refine oP_let fun g4 e => ?_
        have f_g4 : fN g0 g4 := by rw [e, e_p3]; exact fN_tr f_g3 fn105_nq
        clear e
        refine oP_let fun p4 e_p4 => ?_
        refine oP_let fun g5 e => ?_
        have f_g5 : fN g0 g5 := by rw [e, e_p4]; exact fN_tr f_g4 fn109_nq
        clear e
        exact f_g5
  · refine oP_dl ?_
    refine oP_let fun p1 e_p1 => ?_
    refine oP_let fun g2 e => ?_
    have f_g2 : fN g0 g2 := by rw [e, e_p1]; exact fN_tr f_g1 fn106_nq
    clear e
    refine oP_let fun p2 e_p2 => ?_
    refine oP_let fun g3 e => ?_
    have f_g3 : fN g0 g3 := by rw [e, e_p2]; exact fN_tr f_g2 fn105_nq
    clear e
    refine oP_let fun p3 e_p3 => ?_
    refine oP_let fun g4 e => ?_
    have f_g4 : fN g0 g4 := by rw [e, e_p3]; exact fN_tr f_g3 fn107_nq
    clear e
    refine oP_let fun p4 e_p4 => ?_
    refine oP_let fun g5 e => ?_
    have f_g5 : fN g0 g5 := by rw [e, e_p4]; exact fN_tr f_g4 fn109_nq
    clear e
    exact f_g5
theorem fn146_nq {x : List Int} {g0 : rHp} : fN g0 (fn146 x g0).2.2 := by
  have f_g0 : fN g0 g0 := fN_refl
  show oP (fun h => fN g0 h) (fn146 x g0)
  unfold fn146
  refine oP_dl ?_
  refine oP_dl ?_
  refine oP_let fun p0 e_p0 => ?_
  refine oP_let fun g1 e => ?_
  have f_g1 : fN g0 g1 := by rw [e, e_p0]; exact fN_tr f_g0 fn110_nq
  clear e
  refine oP_let fun g2 e => ?_
  have f_g2 : fN g0 g2 := by rw [e]; exact fN_up f_g1 (by decide)
  clear e
  refine oP_let fun g3 e => ?_
  have f_g3 : fN g0 g3 := by rw [e]; exact fN_up f_g2 (by decide)
  clear e
  refine oP_let fun p3 e_p3 => ?_
  refine oP_let fun g4 e => ?_
  have f_g4 : fN g0 g4 := by rw [e, e_p3]; exact fN_tr f_g3 fn114_nq
  clear e
  refine oP_ite (fun hb => ?_) (fun hb => ?_)
  · refine oP_dl ?_
    refine oP_dl ?_
    refine oP_let fun p4 e_p4 => ?_
    refine oP_let fun g5 e => ?_
    have f_g5 : fN g0 g5 := by rw [e, e_p4]; exact fN_tr f_g4 fn105_nq
    clear e
    refine oP_ite (fun hb => ?_) (fun hb => ?_)
    · refine oP_let fun p5 e_p5 => ?_
      refine oP_let fun g6 e => ?_
      have f_g6 : fN g0 g6 := by rw [e, e_p5]; exact fN_tr f_g5 fn115_nq
      clear e
      refine oP_ite (fun hb => ?_) (fun hb => ?_)
      · refine oP_let fun p6 e_p6 => ?_
        refine oP_let fun g7 e => ?_
        have f_g7 : fN g0 g7 := by rw [e, e_p6]; exact fN_tr f_g6 fn144_nq
        clear e
        refine oP_ite (fun hb => ?_) (fun hb => ?_)
        · exact f_g7
        · exact f_g7
      · exact f_g6
    · refine oP_let fun p5 e_p5 => ?_
      refine oP_let fun g6 e => ?_
      have f_g6 : fN g0 g6 := by rw [e, e_p5]; exact fN_tr f_g5 fn109_nq
      clear e
      exact f_g6
  · refine oP_dl ?_
    refine oP_let fun p4 e_p4 => ?_
    refine oP_let fun g5 e => ?_
    have f_g5 : fN g0 g5 := by rw [e, e_p4]; exact fN_tr f_g4 fn105_nq
    clear e
    refine oP_let fun p5 e_p5 => ?_
    refine oP_let fun g6 e => ?_
    have f_g6 : fN g0 g6 := by rw [e, e_p5]; exact fN_tr f_g5 fn109_nq
    clear e
    exact f_g6
theorem fn158_nq {x : List Int} {g0 : rHp} : fN g0 (fn158 x g0).2.2 := by
  have f_g0 : fN g0 g0 := fN_refl
  refine zGoo_P (I := fun s => fN g0 s.2.2) fN_zero (fun s hs => ?_) ?_
  · unfold en158
    refine oS_ite (fun hb => ?_) (fun hb => ?_)
    · refine oS_let fun g1 e => ?_
      have f_g1 : fN g0 g1 := by rw [e]; exact hs
      clear e
      refine oS_dl ?_
      refine oS_dl ?_
      refine oS_dl ?_
      refine oS_dl ?_
      refine oS_ite (fun hb => ?_) (fun hb => ?_)
      · refine oS_let fun p1 e_p1 => ?_
        refine oS_let fun g2 e => ?_
        have f_g2 : fN g0 g2 := by rw [e, e_p1]; exact fN_tr f_g1 fn114_nq
        clear e
        refine oS_ite (fun hb => ?_) (fun hb => ?_)
        · refine oS_dl ?_
          refine oS_let fun p2 e_p2 => ?_
          refine oS_let fun g3 e => ?_
          have f_g3 : fN g0 g3 := by rw [e, e_p2]; exact fN_tr f_g2 fn109_nq
          clear e
          exact f_g3
        · refine oS_dl ?_
          refine oS_let fun p2 e_p2 => ?_
          refine oS_let fun g3 e => ?_
          have f_g3 : fN g0 g3 := by rw [e, e_p2]; exact fN_tr f_g2 fn109_nq
          clear e
          exact f_g3
      · refine oS_let fun p1 e_p1 => ?_
        refine oS_let fun g2 e => ?_
        have f_g2 : fN g0 g2 := by rw [e, e_p1]; exact fN_tr f_g1 fn132_nq
        clear e
        refine oS_let fun p2 e_p2 => ?_
        refine oS_let fun g3 e => ?_
        have f_g3 : fN g0 g3 := by rw [e, e_p2]; exact fN_tr f_g2 fn157_nq
        clear e
        refine oS_ite (fun hb => ?_) (fun hb => ?_)
        · refine oS_ite (fun hb => ?_) (fun hb => ?_)
          · refine oS_ite (fun hb => ?_) (fun hb => ?_)
            · refine oS_let fun g4 e => ?_
              have f_g4 : fN g0 g4 := by rw [e]; exact fN_up f_g3 (by decide)
              clear e
              refine oS_let fun p4 e_p4 => ?_
              refine oS_let fun g5 e => ?_
              have f_g5 : fN g0 g5 := by rw [e, e_p4]; exact fN_tr f_g4 fn114_nq
              clear e
              refine oS_ite (fun hb => ?_) (fun hb => ?_)
              · refine oS_dl ?_
                refine oS_dl ?_
                refine oS_ite (fun hb => ?_) (fun hb => ?_)
                · refine oS_ite (fun hb => ?_) (fun hb => ?_)
                  · refine oS_let fun g6 e => ?_
                    have f_g6 : fN g0 g6 := by rw [e]; exact fN_up f_g5 (by decide)
                    clear e
                    exact f_g6
                  · refine oS_let fun p5 e_p5 => ?_
                    refine oS_let fun g6 e => ?_
                    have f_g6 : fN g0 g6 := by rw [e, e_p5]; exact fN_tr f_g5 fn109_nq
                    clear e
                    exact f_g6
                · refine oS_let fun g6 e => ?_
                  have f_g6 : fN g0 g6 := by rw [e]; exact fN_up f_g5 (by decide)
                  clear e
                  refine oS_let fun p6 e_p6 => ?_
                  refine oS_let fun g7 e => ?_
                  have f_g7 : fN g0 g7 := by rw [e, e_p6]; exact fN_tr f_g6 fn153_nq
                  clear e
                  refine oS_ite (fun hb => ?_) (fun hb => ?_)
                  · refine oS_let fun p7 e_p7 => ?_
                    refine oS_let fun g8 e => ?_
                    have f_g8 : fN g0 g8 := by rw [e, e_p7]; exact fN_tr f_g7 fn152_nq
                    clear e
                    refine oS_ite (fun hb => ?_) (fun hb => ?_)
                    · exact f_g8
                    · exact f_g8
                  · exact f_g7
              · refine oS_dl ?_
                refine oS_let fun p5 e_p5 => ?_
                refine oS_let fun g6 e => ?_
                have f_g6 : fN g0 g6 := by rw [e, e_p5]; exact fN_tr f_g5 fn109_nq
                clear e
                exact f_g6
            · refine oS_let fun g4 e => ?_
              have f_g4 : fN g0 g4 := by rw [e]; exact fN_up f_g3 (by decide)
              clear e
              refine oS_let fun p4 e_p4 => ?_
              refine oS_let fun g5 e => ?_
              have f_g5 : fN g0 g5 := by rw [e, e_p4]; exact fN_tr f_g4 fn114_nq
              clear e
              refine oS_ite (fun hb => ?_) (fun hb => ?_)
              · refine oS_dl ?_
                refine oS_dl ?_
                refine oS_ite (fun hb => ?_) (fun hb => ?_)
                · refine oS_ite (fun hb => ?_) (fun hb => ?_)
                  · refine oS_let fun g6 e => ?_
                    have f_g6 : fN g0 g6 := by rw [e]; exact fN_up f_g5 (by decide)
                    clear e
                    exact f_g6
                  · refine oS_let fun p5 e_p5 => ?_
                    refine oS_let fun g6 e => ?_
                    have f_g6 : fN g0 g6 := by rw [e, e_p5]; exact fN_tr f_g5 fn109_nq
                    clear e
                    exact f_g6
                · refine oS_let fun g6 e => ?_
                  have f_g6 : fN g0 g6 := by rw [e]; exact fN_up f_g5 (by decide)
                  clear e
                  refine oS_let fun p6 e_p6 => ?_
                  refine oS_let fun g7 e => ?_
                  have f_g7 : fN g0 g7 := by rw [e, e_p6]; exact fN_tr f_g6 fn153_nq
                  clear e
                  refine oS_ite (fun hb => ?_) (fun hb => ?_)
                  · refine oS_let fun p7 e_p7 => ?_
                    refine oS_let fun g8 e => ?_
                    have f_g8 : fN g0 g8 := by rw [e, e_p7]; exact fN_tr f_g7 fn152_nq
                    clear e
                    refine oS_ite (fun hb => ?_) (fun hb => ?_)
                    · exact f_g8
                    · exact f_g8
                  · exact f_g7
              · refine oS_dl ?_
                refine oS_let fun p5 e_p5 => ?_
                refine oS_let fun g6 e => ?_
                have f_g6 : fN g0 g6 := by rw [e, e_p5]; exact fN_tr f_g5 fn109_nq
                clear e
                exact f_g6
          · refine oS_dl ?_
            refine oS_let fun g4 e => ?_
            have f_g4 : fN g0 g4 := by rw [e]; exact fN_up f_g3 (by decide)
            clear e
            refine oS_ite (fun hb => ?_) (fun hb => ?_)
            · refine oS_let fun p4 e_p4 => ?_
              refine oS_let fun g5 e => ?_
              have f_g5 : fN g0 g5 := by rw [e, e_p4]; exact fN_tr f_g4 fn114_nq
              clear e
              refine oS_ite (fun hb => ?_) (fun hb => ?_)
              · refine oS_dl ?_
                refine oS_dl ?_
                refine oS_ite (fun hb => ?_) (fun hb => ?_)
                · refine oS_ite (fun hb => ?_) (fun hb => ?_)
                  · refine oS_let fun g6 e => ?_
                    have f_g6 : fN g0 g6 := by rw [e]; exact fN_up f_g5 (by decide)
                    clear e
                    exact f_g6
                  · refine oS_let fun p5 e_p5 => ?_
                    refine oS_let fun g6 e => ?_
                    have f_g6 : fN g0 g6 := by rw [e, e_p5]; exact fN_tr f_g5 fn109_nq
                    clear e
                    exact f_g6
                · refine oS_let fun g6 e => ?_
                  have f_g6 : fN g0 g6 := by rw [e]; exact fN_up f_g5 (by decide)
                  clear e
                  refine oS_let fun p6 e_p6 => ?_
                  refine oS_let fun g7 e => ?_
                  have f_g7 : fN g0 g7 := by rw [e, e_p6]; exact fN_tr f_g6 fn153_nq
                  clear e
                  refine oS_ite (fun hb => ?_) (fun hb => ?_)
                  · refine oS_let fun p7 e_p7 => ?_
                    refine oS_let fun g8 e => ?_
                    have f_g8 : fN g0 g8 := by rw [e, e_p7]; exact fN_tr f_g7 fn152_nq
                    clear e
                    refine oS_ite (fun hb => ?_) (fun hb => ?_)
                    · exact f_g8
                    · exact f_g8
                  · exact f_g7
              · refine oS_dl ?_
                refine oS_let fun p5 e_p5 => ?_
                refine oS_let fun g6 e => ?_
                have f_g6 : fN g0 g6 := by rw [e, e_p5]; exact fN_tr f_g5 fn109_nq
                clear e
                exact f_g6
            · refine oS_let fun g5 e => ?_
              have f_g5 : fN g0 g5 := by rw [e]; exact fN_up f_g4 (by decide)
              clear e
              refine oS_let fun g6 e => ?_
              have f_g6 : fN g0 g6 := by rw [e]; exact fN_up f_g5 (by decide)
              clear e
              refine oS_let fun p6 e_p6 => ?_
              refine oS_let fun g7 e => ?_
              have f_g7 : fN g0 g7 := by rw [e, e_p6]; exact fN_tr f_g6 fn114_nq
              clear e
              refine oS_ite (fun hb => ?_) (fun hb => ?_)
              · refine oS_dl ?_
                refine oS_dl ?_
                refine oS_ite (fun hb => ?_) (fun hb => ?_)
                · refine oS_ite (fun hb => ?_) (fun hb => ?_)
                  · refine oS_let fun g8 e => ?_
                    have f_g8 : fN g0 g8 := by rw [e]; exact fN_up f_g7 (by decide)
                    clear e
                    exact f_g8
                  · refine oS_let fun p7 e_p7 => ?_
                    refine oS_let fun g8 e => ?_
                    have f_g8 : fN g0 g8 := by rw [e, e_p7]; exact fN_tr f_g7 fn109_nq
                    clear e
                    exact f_g8
                · refine oS_let fun g8 e => ?_
                  have f_g8 : fN g0 g8 := by rw [e]; exact fN_up f_g7 (by decide)
                  clear e
                  refine oS_let fun p8 e_p8 => ?_
                  refine oS_let fun g9 e => ?_
                  have f_g9 : fN g0 g9 := by rw [e, e_p8]; exact fN_tr f_g8 fn153_nq
                  clear e
                  refine oS_ite (fun hb => ?_) (fun hb => ?_)
                  · refine oS_let fun p9 e_p9 => ?_
                    refine oS_let fun g10 e => ?_
                    have f_g10 : fN g0 g10 := by rw [e, e_p9]; exact fN_tr f_g9 fn152_nq
                    clear e
                    refine oS_ite (fun hb => ?_) (fun hb => ?_)
                    · exact f_g10
                    · exact f_g10
                  · exact f_g9
              · refine oS_dl ?_
                refine oS_let fun p7 e_p7 => ?_
                refine oS_let fun g8 e => ?_
                have f_g8 : fN g0 g8 := by rw [e, e_p7]; exact fN_tr f_g7 fn109_nq
                clear e
                exact f_g8
        · exact f_g3
    · exact f_g0
  · unfold dn158
    refine oS_dl ?_
    refine oS_dl ?_
    refine oS_let fun g1 e => ?_
    have f_g1 : fN g0 g1 := by rw [e]; exact fN_up f_g0 (by decide)
    clear e
    refine oS_let fun g2 e => ?_
    have f_g2 : fN g0 g2 := by rw [e]; exact fN_up f_g1 (by decide)
    clear e
    exact f_g2
theorem fn159_nq {x : List Int} {g0 : rHp} : fN g0 (fn159 x g0).2.2 := by
  have f_g0 : fN g0 g0 := fN_refl
  refine zGoo_P (I := fun s => fN g0 s.2.2) fN_zero (fun s hs => ?_) ?_
  · unfold en159
    refine oS_ite (fun hb => ?_) (fun hb => ?_)
    · refine oS_let fun g1 e => ?_
      have f_g1 : fN g0 g1 := by rw [e]; exact hs
      clear e
      refine oS_dl ?_
      refine oS_dl ?_
      refine oS_dl ?_
      refine oS_dl ?_
      refine oS_ite (fun hb => ?_) (fun hb => ?_)
      · refine oS_let fun p1 e_p1 => ?_
        refine oS_let fun g2 e => ?_
        have f_g2 : fN g0 g2 := by rw [e, e_p1]; exact fN_tr f_g1 fn114_nq
        clear e
        refine oS_ite (fun hb => ?_) (fun hb => ?_)
        · refine oS_dl ?_
          refine oS_let fun p2 e_p2 => ?_
          refine oS_let fun g3 e => ?_
          have f_g3 : fN g0 g3 := by rw [e, e_p2]; exact fN_tr f_g2 fn109_nq
          clear e
          exact f_g3
        · refine oS_dl ?_
          refine oS_let fun p2 e_p2 => ?_
          refine oS_let fun g3 e => ?_
          have f_g3 : fN g0 g3 := by rw [e, e_p2]; exact fN_tr f_g2 fn109_nq
          clear e
          exact f_g3
      · refine oS_let fun p1 e_p1 => ?_
        refine oS_let fun g2 e => ?_
        have f_g2 : fN g0 g2 := by rw [e, e_p1]; exact fN_tr f_g1 fn132_nq
        clear e
        refine oS_let fun p2 e_p2 => ?_
        refine oS_let fun g3 e => ?_
        have f_g3 : fN g0 g3 := by rw [e, e_p2]; exact fN_tr f_g2 fn157_nq
        clear e
        refine oS_ite (fun hb => ?_) (fun hb => ?_)
        · refine oS_ite (fun hb => ?_) (fun hb => ?_)
          · refine oS_ite (fun hb => ?_) (fun hb => ?_)
            · refine oS_let fun g4 e => ?_
              have f_g4 : fN g0 g4 := by rw [e]; exact fN_up f_g3 (by decide)
              clear e
              refine oS_let fun p4 e_p4 => ?_
              refine oS_let fun g5 e => ?_
              have f_g5 : fN g0 g5 := by rw [e, e_p4]; exact fN_tr f_g4 fn114_nq
              clear e
              refine oS_ite (fun hb => ?_) (fun hb => ?_)
              · refine oS_dl ?_
                refine oS_dl ?_
                refine oS_ite (fun hb => ?_) (fun hb => ?_)
                · refine oS_let fun g6 e => ?_
                  have f_g6 : fN g0 g6 := by rw [e]; exact fN_up f_g5 (by decide)
                  clear e
                  exact f_g6
                · refine oS_let fun p5 e_p5 => ?_
                  refine oS_let fun g6 e => ?_
                  have f_g6 : fN g0 g6 := by rw [e, e_p5]; exact fN_tr f_g5 fn109_nq
                  clear e
                  exact f_g6
              · refine oS_dl ?_
                refine oS_let fun g6 e => ?_
                have f_g6 : fN g0 g6 := by rw [e]; exact fN_up f_g5 (by decide)
                clear e
                refine oS_let fun p6 e_p6 => ?_
                refine oS_let fun g7 e => ?_
                have f_g7 : fN g0 g7 := by rw [e, e_p6]; exact fN_tr f_g6 fn152_nq
                clear e
                refine oS_ite (fun hb => ?_) (fun hb => ?_)
                · exact f_g7
                · exact f_g7
            · refine oS_let fun g4 e => ?_
              have f_g4 : fN g0 g4 := by rw [e]; exact fN_up f_g3 (by decide)
              clear e
              refine oS_let fun p4 e_p4 => ?_
              refine oS_let fun g5 e => ?_
              have f_g5 : fN g0 g5 := by rw [e, e_p4]; exact fN_tr f_g4 fn114_nq
              clear e
              refine oS_ite (fun hb => ?_) (fun hb => ?_)
              · refine oS_dl ?_
                refine oS_dl ?_
                refine oS_ite (fun hb => ?_) (fun hb => ?_)
                · refine oS_let fun g6 e => ?_
                  have f_g6 : fN g0 g6 := by rw [e]; exact fN_up f_g5 (by decide)
                  clear e
                  exact f_g6
                · refine oS_let fun p5 e_p5 => ?_
                  refine oS_let fun g6 e => ?_
                  have f_g6 : fN g0 g6 := by rw [e, e_p5]; exact fN_tr f_g5 fn109_nq
                  clear e
                  exact f_g6
              · refine oS_dl ?_
                refine oS_let fun g6 e => ?_
                have f_g6 : fN g0 g6 := by rw [e]; exact fN_up f_g5 (by decide)
                clear e
                refine oS_let fun p6 e_p6 => ?_
                refine oS_let fun g7 e => ?_
                have f_g7 : fN g0 g7 := by rw [e, e_p6]; exact fN_tr f_g6 fn152_nq
                clear e
                refine oS_ite (fun hb => ?_) (fun hb => ?_)
                · exact f_g7
                · exact f_g7
          · refine oS_dl ?_
            refine oS_let fun g4 e => ?_
            have f_g4 : fN g0 g4 := by rw [e]; exact fN_up f_g3 (by decide)
            clear e
            refine oS_ite (fun hb => ?_) (fun hb => ?_)
            · refine oS_let fun p4 e_p4 => ?_
              refine oS_let fun g5 e => ?_
              have f_g5 : fN g0 g5 := by rw [e, e_p4]; exact fN_tr f_g4 fn114_nq
              clear e
              refine oS_ite (fun hb => ?_) (fun hb => ?_)
              · refine oS_dl ?_
                refine oS_dl ?_
                refine oS_ite (fun hb => ?_) (fun hb => ?_)
                · refine oS_let fun g6 e => ?_
                  have f_g6 : fN g0 g6 := by rw [e]; exact fN_up f_g5 (by decide)
                  clear e
                  exact f_g6
                · refine oS_let fun p5 e_p5 => ?_
                  refine oS_let fun g6 e => ?_
                  have f_g6 : fN g0 g6 := by rw [e, e_p5]; exact fN_tr f_g5 fn109_nq
                  clear e
                  exact f_g6
              · refine oS_dl ?_
                refine oS_let fun g6 e => ?_
                have f_g6 : fN g0 g6 := by rw [e]; exact fN_up f_g5 (by decide)
                clear e
                refine oS_let fun p6 e_p6 => ?_
                refine oS_let fun g7 e => ?_
                have f_g7 : fN g0 g7 := by rw [e, e_p6]; exact fN_tr f_g6 fn152_nq
                clear e
                refine oS_ite (fun hb => ?_) (fun hb => ?_)
                · exact f_g7
                · exact f_g7
            · refine oS_let fun g5 e => ?_
              have f_g5 : fN g0 g5 := by rw [e]; exact fN_up f_g4 (by decide)
              clear e
              refine oS_let fun g6 e => ?_
              have f_g6 : fN g0 g6 := by rw [e]; exact fN_up f_g5 (by decide)
              clear e
              refine oS_let fun p6 e_p6 => ?_
              refine oS_let fun g7 e => ?_
              have f_g7 : fN g0 g7 := by rw [e, e_p6]; exact fN_tr f_g6 fn114_nq
              clear e
              refine oS_ite (fun hb => ?_) (fun hb => ?_)
              · refine oS_dl ?_
                refine oS_dl ?_
                refine oS_ite (fun hb => ?_) (fun hb => ?_)
                · refine oS_let fun g8 e => ?_
                  have f_g8 : fN g0 g8 := by rw [e]; exact fN_up f_g7 (by decide)
                  clear e
                  exact f_g8
                · refine oS_let fun p7 e_p7 => ?_
                  refine oS_let fun g8 e => ?_
                  have f_g8 : fN g0 g8 := by rw [e, e_p7]; exact fN_tr f_g7 fn109_nq
                  clear e
                  exact f_g8
              · refine oS_dl ?_
                refine oS_let fun g8 e => ?_
                have f_g8 : fN g0 g8 := by rw [e]; exact fN_up f_g7 (by decide)
                clear e
                refine oS_let fun p8 e_p8 => ?_
                refine oS_let fun g9 e => ?_
                have f_g9 : fN g0 g9 := by rw [e, e_p8]; exact fN_tr f_g8 fn152_nq
                clear e
                refine oS_ite (fun hb => ?_) (fun hb => ?_)
                · exact f_g9
                · exact f_g9
        · exact f_g3
    · exact f_g0
  · unfold dn159
    refine oS_dl ?_
    refine oS_dl ?_
    refine oS_let fun g1 e => ?_
    have f_g1 : fN g0 g1 := by rw [e]; exact fN_up f_g0 (by decide)
    clear e
    refine oS_let fun g2 e => ?_
    have f_g2 : fN g0 g2 := by rw [e]; exact fN_up f_g1 (by decide)
    clear e
    exact f_g2
theorem fn167_nq {x : List Int} {g0 : rHp} : fN g0 (fn167 x g0).2.2 := by
  have f_g0 : fN g0 g0 := fN_refl
  show oP (fun h => fN g0 h) (fn167 x g0)
  unfold fn167
  refine oP_dl ?_
  refine oP_dl ?_
  refine oP_let fun p0 e_p0 => ?_
  refine oP_let fun g1 e => ?_
  have f_g1 : fN g0 g1 := by rw [e, e_p0]; exact fN_tr f_g0 fn131_nq
  clear e
  refine oP_let fun p1 e_p1 => ?_
  refine oP_let fun g2 e => ?_
  have f_g2 : fN g0 g2 := by rw [e, e_p1]; exact fN_tr f_g1 fn111_nq
  clear e
  refine oP_let fun p2 e_p2 => ?_
  refine oP_let fun g3 e => ?_
  have f_g3 : fN g0 g3 := by rw [e, e_p2]; exact fN_tr f_g2 fn146_nq
  clear e
  refine oP_ite (fun hb => ?_) (fun hb => ?_)
  · refine oP_ite (fun hb => ?_) (fun hb => ?_)
    · refine oP_let fun p3 e_p3 => ?_
      refine oP_let fun g4 e => ?_
      have f_g4 : fN g0 g4 := by rw [e, e_p3]; exact fN_tr f_g3 fn148_nq
      clear e
      refine oP_ite (fun hb => ?_) (fun hb => ?_)
      · refine oP_let fun p4 e_p4 => ?_
        refine oP_let fun g5 e => ?_
        have f_g5 : fN g0 g5 := by rw [e, e_p4]; exact fN_tr f_g4 fn149_nq
        clear e
        refine oP_ite (fun hb => ?_) (fun hb => ?_)
        · refine oP_let fun p5 e_p5 => ?_
          refine oP_let fun g6 e => ?_
          have f_g6 : fN g0 g6 := by rw [e, e_p5]; exact fN_tr f_g5 fn112_nq
          clear e
          refine oP_let fun p6 e_p6 => ?_
          refine oP_let fun g7 e => ?_
          have f_g7 : fN g0 g7 := by rw [e, e_p6]; exact fN_tr f_g6 fn128_nq
          clear e
          refine oP_dl ?_
          refine oP_ite (fun hb => ?_) (fun hb => ?_)
          · refine oP_let fun p7 e_p7 => ?_
            refine oP_let fun g8 e => ?_
            have f_g8 : fN g0 g8 := by rw [e, e_p7]; exact fN_tr f_g7 fn130_nq
            clear e
            refine oP_let fun p8 e_p8 => ?_
            refine oP_let fun g9 e => ?_
            have f_g9 : fN g0 g9 := by rw [e, e_p8]; exact fN_tr f_g8 fn163_nq
            clear e
            exact f_g9
          · exact f_g7
        · refine oP_dl ?_
          refine oP_let fun p5 e_p5 => ?_
          refine oP_let fun g6 e => ?_
          have f_g6 : fN g0 g6 := by rw [e, e_p5]; exact fN_tr f_g5 fn112_nq
          clear e
          exact f_g6
      · refine oP_dl ?_
        refine oP_let fun p4 e_p4 => ?_
        refine oP_let fun g5 e => ?_
        have f_g5 : fN g0 g5 := by rw [e, e_p4]; exact fN_tr f_g4 fn112_nq
        clear e
        exact f_g5
    · refine oP_let fun p3 e_p3 => ?_
      refine oP_let fun g4 e => ?_
      have f_g4 : fN g0 g4 := by rw [e, e_p3]; exact fN_tr f_g3 fn148_nq
      clear e
      refine oP_ite (fun hb => ?_) (fun hb => ?_)
      · refine oP_let fun p4 e_p4 => ?_
        refine oP_let fun g5 e => ?_
        have f_g5 : fN g0 g5 := by rw [e, e_p4]; exact fN_tr f_g4 fn149_nq
        clear e
        refine oP_ite (fun hb => ?_) (fun hb => ?_)
        · refine oP_let fun p5 e_p5 => ?_
          refine oP_let fun g6 e => ?_
          have f_g6 : fN g0 g6 := by rw [e, e_p5]; exact fN_tr f_g5 fn112_nq
          clear e
          refine oP_let fun p6 e_p6 => ?_
          refine oP_let fun g7 e => ?_
          have f_g7 : fN g0 g7 := by rw [e, e_p6]; exact fN_tr f_g6 fn128_nq
          clear e
          refine oP_dl ?_
          refine oP_ite (fun hb => ?_) (fun hb => ?_)
          · refine oP_let fun p7 e_p7 => ?_
            refine oP_let fun g8 e => ?_
            have f_g8 : fN g0 g8 := by rw [e, e_p7]; exact fN_tr f_g7 fn130_nq
            clear e
            refine oP_let fun p8 e_p8 => ?_
            refine oP_let fun g9 e => ?_
            have f_g9 : fN g0 g9 := by rw [e, e_p8]; exact fN_tr f_g8 fn163_nq
            clear e
            exact f_g9
          · exact f_g7
        · refine oP_dl ?_
          refine oP_let fun p5 e_p5 => ?_
          refine oP_let fun g6 e => ?_
          have f_g6 : fN g0 g6 := by rw [e, e_p5]; exact fN_tr f_g5 fn112_nq
          clear e
          exact f_g6
      · refine oP_dl ?_
        refine oP_let fun p4 e_p4 => ?_
        refine oP_let fun g5 e => ?_
        have f_g5 : fN g0 g5 := by rw [e, e_p4]; exact fN_tr f_g4 fn112_nq
        clear e
        exact f_g5
  · refine oP_dl ?_
    refine oP_let fun p3 e_p3 => ?_
    refine oP_let fun g4 e => ?_
    have f_g4 : fN g0 g4 := by rw [e, e_p3]; exact fN_tr f_g3 fn112_nq
    clear e
    exact f_g4
theorem fn166_nq {x : List Int} {g0 : rHp} : fN g0 (fn166 x g0).2.2 := by
  have f_g0 : fN g0 g0 := fN_refl
  refine zGoo_P (I := fun s => fN g0 s.2.2) fN_zero (fun s hs => ?_) ?_
  · unfold en166
    refine oS_ite (fun hb => ?_) (fun hb => ?_)
    · refine oS_let fun g1 e => ?_
      have f_g1 : fN g0 g1 := by rw [e]; exact hs
      clear e
      refine oS_dl ?_
      refine oS_dl ?_
      refine oS_dl ?_
      refine oS_dl ?_
      refine oS_ite (fun hb => ?_) (fun hb => ?_)
      · refine oS_let fun p1 e_p1 => ?_
        refine oS_let fun g2 e => ?_
        have f_g2 : fN g0 g2 := by rw [e, e_p1]; exact fN_tr f_g1 fn112_nq
        clear e
        refine oS_let fun p2 e_p2 => ?_
        refine oS_let fun g3 e => ?_
        have f_g3 : fN g0 g3 := by rw [e, e_p2]; exact fN_tr f_g2 fn161_nq
        clear e
        exact f_g3
      · refine oS_ite (fun hb => ?_) (fun hb => ?_)
        · refine oS_let fun p1 e_p1 => ?_
          refine oS_let fun g2 e => ?_
          have f_g2 : fN g0 g2 := by rw [e, e_p1]; exact fN_tr f_g1 fn112_nq
          clear e
          refine oS_let fun p2 e_p2 => ?_
          refine oS_let fun g3 e => ?_
          have f_g3 : fN g0 g3 := by rw [e, e_p2]; exact fN_tr f_g2 fn124_nq
          clear e
          refine oS_ite (fun hb => ?_) (fun hb => ?_)
          · refine oS_let fun p3 e_p3 => ?_
            refine oS_let fun g4 e => ?_
            have f_g4 : fN g0 g4 := by rw [e, e_p3]; exact fN_tr f_g3 fn163_nq
            clear e
            exact f_g4
          · exact f_g3
        · refine oS_let fun p1 e_p1 => ?_
          refine oS_let fun g2 e => ?_
          have f_g2 : fN g0 g2 := by rw [e, e_p1]; exact fN_tr f_g1 fn114_nq
          clear e
          refine oS_ite (fun hb => ?_) (fun hb => ?_)
          · refine oS_dl ?_
            refine oS_let fun p2 e_p2 => ?_
            refine oS_let fun g3 e => ?_
            have f_g3 : fN g0 g3 := by rw [e, e_p2]; exact fN_tr f_g2 fn131_nq
            clear e
            refine oS_let fun p3 e_p3 => ?_
            refine oS_let fun g4 e => ?_
            have f_g4 : fN g0 g4 := by rw [e, e_p3]; exact fN_tr f_g3 fn146_nq
            clear e
            refine oS_ite (fun hb => ?_) (fun hb => ?_)
            · refine oS_let fun p4 e_p4 => ?_
              refine oS_let fun g5 e => ?_
              have f_g5 : fN g0 g5 := by rw [e, e_p4]; exact fN_tr f_g4 fn114_nq
              clear e
              refine oS_ite (fun hb => ?_) (fun hb => ?_)
              · refine oS_dl ?_
                refine oS_ite (fun hb => ?_) (fun hb => ?_)
                · refine oS_let fun p5 e_p5 => ?_
                  refine oS_let fun g6 e => ?_
                  have f_g6 : fN g0 g6 := by rw [e, e_p5]; exact fN_tr f_g5 fn151_nq
                  clear e
                  refine oS_ite (fun hb => ?_) (fun hb => ?_)
                  · refine oS_let fun p6 e_p6 => ?_
                    refine oS_let fun g7 e => ?_
                    have f_g7 : fN g0 g7 := by rw [e, e_p6]; exact fN_tr f_g6 fn158_nq
                    clear e
                    refine oS_ite (fun hb => ?_) (fun hb => ?_)
                    · refine oS_let fun p7 e_p7 => ?_
                      refine oS_let fun g8 e => ?_
                      have f_g8 : fN g0 g8 := by rw [e, e_p7]; exact fN_tr f_g7 fn160_nq
                      clear e
                      exact f_g8
                    · exact f_g7
                  · exact f_g6
                · refine oS_let fun p5 e_p5 => ?_
                  refine oS_let fun g6 e => ?_
                  have f_g6 : fN g0 g6 := by rw [e, e_p5]; exact fN_tr f_g5 fn150_nq
                  clear e
                  refine oS_ite (fun hb => ?_) (fun hb => ?_)
                  · exact f_g6
                  · exact f_g6
              · refine oS_let fun p5 e_p5 => ?_
                refine oS_let fun g6 e => ?_
                have f_g6 : fN g0 g6 := by rw [e, e_p5]; exact fN_tr f_g5 fn151_nq
                clear e
                exact f_g6
            · exact f_g4
          · refine oS_let fun p2 e_p2 => ?_
            refine oS_let fun g3 e => ?_
            have f_g3 : fN g0 g3 := by rw [e, e_p2]; exact fN_tr f_g2 fn112_nq
            clear e
            refine oS_let fun p3 e_p3 => ?_
            refine oS_let fun g4 e => ?_
            have f_g4 : fN g0 g4 := by rw [e, e_p3]; exact fN_tr f_g3 fn124_nq
            clear e
            refine oS_ite (fun hb => ?_) (fun hb => ?_)
            · refine oS_let fun p4 e_p4 => ?_
              refine oS_let fun g5 e => ?_
              have f_g5 : fN g0 g5 := by rw [e, e_p4]; exact fN_tr f_g4 fn163_nq
              clear e
              exact f_g5
            · exact f_g4
    · exact f_g0
  · unfold dn166
    refine oS_let fun p0 e_p0 => ?_
    refine oS_let fun g1 e => ?_
    have f_g1 : fN g0 g1 := by rw [e, e_p0]; exact fN_tr f_g0 fn123_nq
    clear e
    refine oS_let fun p1 e_p1 => ?_
    refine oS_let fun g2 e => ?_
    have f_g2 : fN g0 g2 := by rw [e, e_p1]; exact fN_tr f_g1 fn111_nq
    clear e
    exact f_g2
