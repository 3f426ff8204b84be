/-! ===== what the WAYS of a question leave, by the reference ===== -/
noncomputable def fT (g g_q : rHp) : Prop := g 15 0 77 ≠ 3 → g_q 15 0 77 ≠ 3
theorem fT_refl {g : rHp} : fT g g := id
theorem fT_zero {g : rHp} : fT g (fun _ _ _ => 0) := fun _ => by decide
theorem fT_tr {a b c : rHp} (h1 : fT a b) (h2 : fT b c) : fT a c := fun z => h2 (h1 z)
theorem fT_up {a b : rHp} {K : Nat} {o j v : Int} (h : fT a b) (hK : K ≠ 15) : fT a (rUp b K o j v) := fun z => by
  rw [rUp_grp (Ne.symm hK)]
  exact h z
theorem fT_fl {a b : rHp} {j v : Int} (h : fT a b) (hj : j ≠ 77) : fT a (rUp b 15 0 j v) := fun z => by
  rw [rUp_ne (fun w => hj w.2.2.symm)]
  exact h z
theorem fT_77 {a b : rHp} {v : Int} (_ : fT a b) (hv : v ≠ 3) : fT a (rUp b 15 0 77 v) := fun _ => by
  rw [rUp_at]
  exact hv
theorem fn55_tq {x : List Int} {g0 : rHp} : fT g0 (fn55 x g0).2.2 := by
  have f_g0 : fT g0 g0 := fT_refl
  show oP (fun h => fT g0 h) (fn55 x g0)
  unfold fn55
  refine oP_dl ?_
  refine oP_ite (fun hb => ?_) (fun hb => ?_)
  · exact f_g0
  · exact f_g0
theorem fn58_tq {x : List Int} {g0 : rHp} : fT g0 (fn58 x g0).2.2 := by
  have f_g0 : fT g0 g0 := fT_refl
  show oP (fun h => fT g0 h) (fn58 x g0)
  unfold fn58
  refine oP_dl ?_
  refine oP_dl ?_
  refine oP_ite (fun hb => ?_) (fun hb => ?_)
  · refine oP_dl ?_
    exact f_g0
  · refine oP_dl ?_
    refine oP_dl ?_
    exact f_g0
theorem fn59_tq {x : List Int} {g0 : rHp} : fT g0 (fn59 x g0).2.2 := by
  have f_g0 : fT g0 g0 := fT_refl
  show oP (fun h => fT g0 h) (fn59 x g0)
  unfold fn59
  refine oP_dl ?_
  refine oP_dl ?_
  refine oP_dl ?_
  refine oP_ite (fun hb => ?_) (fun hb => ?_)
  · exact f_g0
  · refine oP_ite (fun hb => ?_) (fun hb => ?_)
    · exact f_g0
    · exact f_g0
theorem fn60_tq {x : List Int} {g0 : rHp} : fT g0 (fn60 x g0).2.2 := by
  have f_g0 : fT g0 g0 := fT_refl
  refine zGoo_P (I := fun s => fT g0 s.2.2) fT_zero (fun s hs => ?_) ?_
  · unfold en60
    refine oS_ite (fun hb => ?_) (fun hb => ?_)
    · refine oS_let fun g1 e => ?_
      have f_g1 : fT g0 g1 := by rw [e]; exact hs
      clear e
      refine oS_dl ?_
      refine oS_dl ?_
      refine oS_dl ?_
      refine oS_dl ?_
      refine oS_ite (fun hb => ?_) (fun hb => ?_)
      · exact f_g1
      · refine oS_dl ?_
        refine oS_dl ?_
        refine oS_ite (fun hb => ?_) (fun hb => ?_)
        · refine oS_ite (fun hb => ?_) (fun hb => ?_)
          · exact f_g1
          · refine oS_dl ?_
            refine oS_dl ?_
            refine oS_dl ?_
            refine oS_dl ?_
            refine oS_dl ?_
            refine oS_ite (fun hb => ?_) (fun hb => ?_)
            · exact f_g1
            · refine oS_dl ?_
              refine oS_ite (fun hb => ?_) (fun hb => ?_)
              · exact f_g1
              · exact f_g1
        · refine oS_dl ?_
          refine oS_ite (fun hb => ?_) (fun hb => ?_)
          · exact f_g1
          · exact f_g1
    · refine oS_ite (fun hb => ?_) (fun hb => ?_)
      · refine oS_let fun g1 e => ?_
        have f_g1 : fT g0 g1 := by rw [e]; exact hs
        clear e
        refine oS_dl ?_
        refine oS_dl ?_
        refine oS_dl ?_
        refine oS_dl ?_
        refine oS_dl ?_
        refine oS_dl ?_
        refine oS_dl ?_
        refine oS_ite (fun hb => ?_) (fun hb => ?_)
        · exact f_g1
        · refine oS_ite (fun hb => ?_) (fun hb => ?_)
          · exact f_g1
          · refine oS_dl ?_
            refine oS_ite (fun hb => ?_) (fun hb => ?_)
            · exact f_g1
            · refine oS_dl ?_
              refine oS_dl ?_
              refine oS_ite (fun hb => ?_) (fun hb => ?_)
              · exact f_g1
              · refine oS_dl ?_
                refine oS_ite (fun hb => ?_) (fun hb => ?_)
                · exact f_g1
                · exact f_g1
      · exact f_g0
  · unfold dn60
    refine oS_dl ?_
    refine oS_dl ?_
    refine oS_dl ?_
    refine oS_dl ?_
    exact f_g0
theorem fn63_tq {x : List Int} {g0 : rHp} : fT g0 (fn63 x g0).2.2 := by
  have f_g0 : fT g0 g0 := fT_refl
  refine zGoo_P (I := fun s => fT g0 s.2.2) fT_zero (fun s hs => ?_) ?_
  · unfold en63
    refine oS_ite (fun hb => ?_) (fun hb => ?_)
    · refine oS_let fun g1 e => ?_
      have f_g1 : fT g0 g1 := by rw [e]; exact hs
      clear e
      refine oS_dl ?_
      refine oS_dl ?_
      refine oS_dl ?_
      refine oS_dl ?_
      refine oS_ite (fun hb => ?_) (fun hb => ?_)
      · exact f_g1
      · refine oS_dl ?_
        refine oS_ite (fun hb => ?_) (fun hb => ?_)
        · exact f_g1
        · refine oS_dl ?_
          refine oS_dl ?_
          refine oS_let fun g2 e => ?_
          have f_g2 : fT g0 g2 := by rw [e]; exact fT_up f_g1 (by decide)
          clear e
          exact f_g2
    · exact f_g0
  · unfold dn63
    refine oS_dl ?_
    refine oS_dl ?_
    refine oS_dl ?_
    refine oS_dl ?_
    exact f_g0
theorem fn66_tq {x : List Int} {g0 : rHp} : fT g0 (fn66 x g0).2.2 := by
  have f_g0 : fT g0 g0 := fT_refl
  show oP (fun h => fT g0 h) (fn66 x g0)
  unfold fn66
  refine oP_dl ?_
  refine oP_ite (fun hb => ?_) (fun hb => ?_)
  · refine oP_let fun g1 e => ?_
    have f_g1 : fT g0 g1 := by rw [e]; exact fT_fl f_g0 (by decide)
    clear e
    exact f_g1
  · refine oP_dl ?_
    refine oP_let fun g1 e => ?_
    have f_g1 : fT g0 g1 := by rw [e]; exact fT_up f_g0 (by decide)
    clear e
    refine oP_dl ?_
    refine oP_let fun g2 e => ?_
    have f_g2 : fT g0 g2 := by rw [e]; exact fT_up f_g1 (by decide)
    clear e
    refine oP_dl ?_
    refine oP_let fun g3 e => ?_
    have f_g3 : fT g0 g3 := by rw [e]; exact fT_up f_g2 (by decide)
    clear e
    refine oP_dl ?_
    refine oP_let fun g4 e => ?_
    have f_g4 : fT g0 g4 := by rw [e]; exact fT_up f_g3 (by decide)
    clear e
    refine oP_dl ?_
    refine oP_let fun g5 e => ?_
    have f_g5 : fT g0 g5 := by rw [e]; exact fT_up f_g4 (by decide)
    clear e
    refine oP_dl ?_
    refine oP_let fun g6 e => ?_
    have f_g6 : fT g0 g6 := by rw [e]; exact fT_up f_g5 (by decide)
    clear e
    refine oP_dl ?_
    refine oP_let fun g7 e => ?_
    have f_g7 : fT g0 g7 := by rw [e]; exact fT_up f_g6 (by decide)
    clear e
    refine oP_dl ?_
    refine oP_let fun g8 e => ?_
    have f_g8 : fT g0 g8 := by rw [e]; exact fT_up f_g7 (by decide)
    clear e
    refine oP_let fun g9 e => ?_
    have f_g9 : fT g0 g9 := by rw [e]; exact fT_fl f_g8 (by decide)
    clear e
    exact f_g9
theorem fn65_tq {x : List Int} {g0 : rHp} : fT g0 (fn65 x g0).2.2 := by
  have f_g0 : fT g0 g0 := fT_refl
  show oP (fun h => fT g0 h) (fn65 x g0)
  unfold fn65
  refine oP_dl ?_
  refine oP_dl ?_
  refine oP_dl ?_
  refine oP_let fun p0 e_p0 => ?_
  refine oP_let fun g1 e => ?_
  have f_g1 : fT g0 g1 := by rw [e, e_p0]; exact fT_tr f_g0 fn58_tq
  clear e
  refine oP_let fun p1 e_p1 => ?_
  refine oP_let fun g2 e => ?_
  have f_g2 : fT g0 g2 := by rw [e, e_p1]; exact fT_tr f_g1 fn58_tq
  clear e
  refine oP_dl ?_
  refine oP_let fun p2 e_p2 => ?_
  refine oP_let fun g3 e => ?_
  have f_g3 : fT g0 g3 := by rw [e, e_p2]; exact fT_tr f_g2 fn58_tq
  clear e
  refine oP_dl ?_
  refine oP_let fun p3 e_p3 => ?_
  refine oP_let fun g4 e => ?_
  have f_g4 : fT g0 g4 := by rw [e, e_p3]; exact fT_tr f_g3 fn55_tq
  clear e
  refine oP_ite (fun hb => ?_) (fun hb => ?_)
  · refine oP_let fun p4 e_p4 => ?_
    refine oP_let fun g5 e => ?_
    have f_g5 : fT g0 g5 := by rw [e, e_p4]; exact fT_tr f_g4 fn55_tq
    clear e
    refine oP_ite (fun hb => ?_) (fun hb => ?_)
    · refine oP_ite (fun hb => ?_) (fun hb => ?_)
      · refine oP_ite (fun hb => ?_) (fun hb => ?_)
        · refine oP_dl ?_
          refine oP_ite (fun hb => ?_) (fun hb => ?_)
          · exact f_g5
          · refine oP_ite (fun hb => ?_) (fun hb => ?_)
            · refine oP_let fun g6 e => ?_
              have f_g6 : fT g0 g6 := by rw [e]; exact fT_up f_g5 (by decide)
              clear e
              exact f_g6
            · exact f_g5
        · refine oP_ite (fun hb => ?_) (fun hb => ?_)
          · exact f_g5
          · refine oP_ite (fun hb => ?_) (fun hb => ?_)
            · refine oP_let fun g6 e => ?_
              have f_g6 : fT g0 g6 := by rw [e]; exact fT_up f_g5 (by decide)
              clear e
              exact f_g6
            · exact f_g5
      · refine oP_ite (fun hb => ?_) (fun hb => ?_)
        · exact f_g5
        · refine oP_ite (fun hb => ?_) (fun hb => ?_)
          · refine oP_let fun g6 e => ?_
            have f_g6 : fT g0 g6 := by rw [e]; exact fT_up f_g5 (by decide)
            clear e
            exact f_g6
          · exact f_g5
    · exact f_g5
  · exact f_g4
theorem fn61_tq {x : List Int} {g0 : rHp} : fT g0 (fn61 x g0).2.2 := by
  have f_g0 : fT g0 g0 := fT_refl
  refine zGoo_P (I := fun s => fT g0 s.2.2) fT_zero (fun s hs => ?_) ?_
  · unfold en61
    refine oS_ite (fun hb => ?_) (fun hb => ?_)
    · refine oS_let fun g1 e => ?_
      have f_g1 : fT g0 g1 := by rw [e]; exact hs
      clear e
      refine oS_dl ?_
      refine oS_dl ?_
      refine oS_dl ?_
      refine oS_dl ?_
      refine oS_ite (fun hb => ?_) (fun hb => ?_)
      · exact f_g1
      · refine oS_dl ?_
        refine oS_ite (fun hb => ?_) (fun hb => ?_)
        · exact f_g1
        · exact f_g1
    · refine oS_ite (fun hb => ?_) (fun hb => ?_)
      · refine oS_let fun g1 e => ?_
        have f_g1 : fT g0 g1 := by rw [e]; exact hs
        clear e
        refine oS_dl ?_
        refine oS_dl ?_
        refine oS_dl ?_
        refine oS_ite (fun hb => ?_) (fun hb => ?_)
        · exact f_g1
        · refine oS_dl ?_
          refine oS_ite (fun hb => ?_) (fun hb => ?_)
          · exact f_g1
          · refine oS_dl ?_
            refine oS_let fun p1 e_p1 => ?_
            refine oS_let fun g2 e => ?_
            have f_g2 : fT g0 g2 := by rw [e, e_p1]; exact fT_tr f_g1 fn59_tq
            clear e
            refine oS_ite (fun hb => ?_) (fun hb => ?_)
            · exact f_g2
            · exact f_g2
      · exact f_g0
  · unfold dn61
    refine oS_dl ?_
    refine oS_dl ?_
    refine oS_dl ?_
    refine oS_ite (fun hb => ?_) (fun hb => ?_)
    · exact f_g0
    · exact f_g0
theorem fn64_tq {x : List Int} {g0 : rHp} : fT g0 (fn64 x g0).2.2 := by
  have f_g0 : fT g0 g0 := fT_refl
  refine zGoo_P (I := fun s => fT g0 s.2.2) fT_zero (fun s hs => ?_) ?_
  · unfold en64
    refine oS_ite (fun hb => ?_) (fun hb => ?_)
    · refine oS_let fun g1 e => ?_
      have f_g1 : fT g0 g1 := by rw [e]; exact hs
      clear e
      refine oS_dl ?_
      refine oS_dl ?_
      refine oS_dl ?_
      refine oS_ite (fun hb => ?_) (fun hb => ?_)
      · exact f_g1
      · refine oS_let fun p1 e_p1 => ?_
        refine oS_let fun g2 e => ?_
        have f_g2 : fT g0 g2 := by rw [e, e_p1]; exact fT_tr f_g1 fn60_tq
        clear e
        refine oS_ite (fun hb => ?_) (fun hb => ?_)
        · exact f_g2
        · refine oS_dl ?_
          refine oS_ite (fun hb => ?_) (fun hb => ?_)
          · exact f_g2
          · exact f_g2
    · exact f_g0
  · unfold dn64
    refine oS_dl ?_
    refine oS_dl ?_
    refine oS_ite (fun hb => ?_) (fun hb => ?_)
    · refine oS_dl ?_
      refine oS_dl ?_
      refine oS_ite (fun hb => ?_) (fun hb => ?_)
      · exact f_g0
      · exact f_g0
    · refine oS_ite (fun hb => ?_) (fun hb => ?_)
      · refine oS_let fun p0 e_p0 => ?_
        refine oS_let fun g1 e => ?_
        have f_g1 : fT g0 g1 := by rw [e, e_p0]; exact fT_tr f_g0 fn58_tq
        clear e
        refine oS_dl ?_
        refine oS_let fun p1 e_p1 => ?_
        refine oS_let fun g2 e => ?_
        have f_g2 : fT g0 g2 := by rw [e, e_p1]; exact fT_tr f_g1 fn58_tq
        clear e
        refine oS_dl ?_
        refine oS_let fun p2 e_p2 => ?_
        refine oS_let fun g3 e => ?_
        have f_g3 : fT g0 g3 := by rw [e, e_p2]; exact fT_tr f_g2 fn55_tq
        clear e
        refine oS_ite (fun hb => ?_) (fun hb => ?_)
        · refine oS_let fun p3 e_p3 => ?_
          refine oS_let fun g4 e => ?_
          have f_g4 : fT g0 g4 := by rw [e, e_p3]; exact fT_tr f_g3 fn55_tq
          clear e
          refine oS_ite (fun hb => ?_) (fun hb => ?_)
          · refine oS_ite (fun hb => ?_) (fun hb => ?_)
            · exact f_g4
            · exact f_g4
          · exact f_g4
        · exact f_g3
      · refine oS_ite (fun hb => ?_) (fun hb => ?_)
        · refine oS_let fun p0 e_p0 => ?_
          refine oS_let fun g1 e => ?_
          have f_g1 : fT g0 g1 := by rw [e, e_p0]; exact fT_tr f_g0 fn58_tq
          clear e
          refine oS_dl ?_
          refine oS_let fun p1 e_p1 => ?_
          refine oS_let fun g2 e => ?_
          have f_g2 : fT g0 g2 := by rw [e, e_p1]; exact fT_tr f_g1 fn58_tq
          clear e
          refine oS_dl ?_
          refine oS_ite (fun hb => ?_) (fun hb => ?_)
          · exact f_g2
          · exact f_g2
        · refine oS_let fun p0 e_p0 => ?_
          refine oS_let fun g1 e => ?_
          have f_g1 : fT g0 g1 := by rw [e, e_p0]; exact fT_tr f_g0 fn58_tq
          clear e
          refine oS_dl ?_
          refine oS_let fun p1 e_p1 => ?_
          refine oS_let fun g2 e => ?_
          have f_g2 : fT g0 g2 := by rw [e, e_p1]; exact fT_tr f_g1 fn58_tq
          clear e
          refine oS_dl ?_
          refine oS_ite (fun hb => ?_) (fun hb => ?_)
          · exact f_g2
          · exact f_g2
theorem fn62_tq {x : List Int} {g0 : rHp} : fT g0 (fn62 x g0).2.2 := by
  have f_g0 : fT g0 g0 := fT_refl
  refine zGoo_P (I := fun s => fT g0 s.2.2) fT_zero (fun s hs => ?_) ?_
  · unfold en62
    refine oS_ite (fun hb => ?_) (fun hb => ?_)
    · refine oS_let fun g1 e => ?_
      have f_g1 : fT g0 g1 := by rw [e]; exact hs
      clear e
      refine oS_dl ?_
      refine oS_dl ?_
      refine oS_dl ?_
      refine oS_dl ?_
      refine oS_dl ?_
      refine oS_dl ?_
      refine oS_ite (fun hb => ?_) (fun hb => ?_)
      · exact f_g1
      · refine oS_ite (fun hb => ?_) (fun hb => ?_)
        · refine oS_let fun p1 e_p1 => ?_
          refine oS_let fun g2 e => ?_
          have f_g2 : fT g0 g2 := by rw [e, e_p1]; exact fT_tr f_g1 fn60_tq
          clear e
          refine oS_ite (fun hb => ?_) (fun hb => ?_)
          · exact f_g2
          · refine oS_dl ?_
            refine oS_ite (fun hb => ?_) (fun hb => ?_)
            · exact f_g2
            · exact f_g2
        · refine oS_let fun p1 e_p1 => ?_
          refine oS_let fun g2 e => ?_
          have f_g2 : fT g0 g2 := by rw [e, e_p1]; exact fT_tr f_g1 fn59_tq
          clear e
          refine oS_ite (fun hb => ?_) (fun hb => ?_)
          · refine oS_let fun p2 e_p2 => ?_
            refine oS_let fun g3 e => ?_
            have f_g3 : fT g0 g3 := by rw [e, e_p2]; exact fT_tr f_g2 fn60_tq
            clear e
            refine oS_ite (fun hb => ?_) (fun hb => ?_)
            · exact f_g3
            · refine oS_dl ?_
              refine oS_ite (fun hb => ?_) (fun hb => ?_)
              · exact f_g3
              · exact f_g3
          · refine oS_dl ?_
            refine oS_ite (fun hb => ?_) (fun hb => ?_)
            · exact f_g2
            · exact f_g2
    · exact f_g0
  · unfold dn62
    refine oS_dl ?_
    refine oS_dl ?_
    refine oS_dl ?_
    refine oS_let fun p0 e_p0 => ?_
    refine oS_let fun g1 e => ?_
    have f_g1 : fT g0 g1 := by rw [e, e_p0]; exact fT_tr f_g0 fn61_tq
    clear e
    refine oS_ite (fun hb => ?_) (fun hb => ?_)
    · refine oS_ite (fun hb => ?_) (fun hb => ?_)
      · exact f_g1
      · exact f_g1
    · refine oS_ite (fun hb => ?_) (fun hb => ?_)
      · exact f_g1
      · exact f_g1
theorem fn74_tq {x : List Int} {g0 : rHp} : fT g0 (fn74 x g0).2.2 := by
  have f_g0 : fT g0 g0 := fT_refl
  refine zGoo_P (I := fun s => fT g0 s.2.2) fT_zero (fun s hs => ?_) ?_
  · unfold en74
    refine oS_ite (fun hb => ?_) (fun hb => ?_)
    · refine oS_let fun g1 e => ?_
      have f_g1 : fT g0 g1 := by rw [e]; exact hs
      clear e
      refine oS_dl ?_
      refine oS_dl ?_
      refine oS_dl ?_
      refine oS_dl ?_
      refine oS_ite (fun hb => ?_) (fun hb => ?_)
      · exact f_g1
      · refine oS_ite (fun hb => ?_) (fun hb => ?_)
        · refine oS_dl ?_
          refine oS_ite (fun hb => ?_) (fun hb => ?_)
          · refine oS_ite (fun hb => ?_) (fun hb => ?_)
            · refine oS_dl ?_
              refine oS_dl ?_
              refine oS_let fun p1 e_p1 => ?_
              refine oS_let fun g2 e => ?_
              have f_g2 : fT g0 g2 := by rw [e, e_p1]; exact fT_tr f_g1 fn62_tq
              clear e
              refine oS_dl ?_
              refine oS_ite (fun hb => ?_) (fun hb => ?_)
              · refine oS_let fun g3 e => ?_
                have f_g3 : fT g0 g3 := by rw [e]; exact fT_fl f_g2 (by decide)
                clear e
                refine oS_ite (fun hb => ?_) (fun hb => ?_)
                · refine oS_let fun g4 e => ?_
                  have f_g4 : fT g0 g4 := by rw [e]; exact fT_up f_g3 (by decide)
                  clear e
                  refine oS_let fun p4 e_p4 => ?_
                  refine oS_let fun g5 e => ?_
                  have f_g5 : fT g0 g5 := by rw [e, e_p4]; exact fT_tr f_g4 fn63_tq
                  clear e
                  exact f_g5
                · refine oS_let fun g4 e => ?_
                  have f_g4 : fT g0 g4 := by rw [e]; exact fT_77 f_g3 (by decide)
                  clear e
                  refine oS_let fun g5 e => ?_
                  have f_g5 : fT g0 g5 := by rw [e]; exact fT_up f_g4 (by decide)
                  clear e
                  refine oS_let fun p5 e_p5 => ?_
                  refine oS_let fun g6 e => ?_
                  have f_g6 : fT g0 g6 := by rw [e, e_p5]; exact fT_tr f_g5 fn63_tq
                  clear e
                  exact f_g6
              · exact f_g2
            · refine oS_let fun p1 e_p1 => ?_
              refine oS_let fun g2 e => ?_
              have f_g2 : fT g0 g2 := by rw [e, e_p1]; exact fT_tr f_g1 fn64_tq
              clear e
              refine oS_ite (fun hb => ?_) (fun hb => ?_)
              · exact f_g2
              · exact f_g2
          · refine oS_let fun p1 e_p1 => ?_
            refine oS_let fun g2 e => ?_
            have f_g2 : fT g0 g2 := by rw [e, e_p1]; exact fT_tr f_g1 fn65_tq
            clear e
            refine oS_ite (fun hb => ?_) (fun hb => ?_)
            · exact f_g2
            · exact f_g2
        · refine oS_let fun p1 e_p1 => ?_
          refine oS_let fun g2 e => ?_
          have f_g2 : fT g0 g2 := by rw [e, e_p1]; exact fT_tr f_g1 fn66_tq
          clear e
          exact f_g2
    · refine oS_ite (fun hb => ?_) (fun hb => ?_)
      · refine oS_let fun g1 e => ?_
        have f_g1 : fT g0 g1 := by rw [e]; exact hs
        clear e
        refine oS_dl ?_
        refine oS_dl ?_
        refine oS_ite (fun hb => ?_) (fun hb => ?_)
        · exact f_g1
        · refine oS_dl ?_
          refine oS_ite (fun hb => ?_) (fun hb => ?_)
          · refine oS_ite (fun hb => ?_) (fun hb => ?_)
            · refine oS_dl ?_
              refine oS_dl ?_
              refine oS_let fun p1 e_p1 => ?_
              refine oS_let fun g2 e => ?_
              have f_g2 : fT g0 g2 := by rw [e, e_p1]; exact fT_tr f_g1 fn62_tq
              clear e
              refine oS_dl ?_
              refine oS_ite (fun hb => ?_) (fun hb => ?_)
              · refine oS_let fun g3 e => ?_
                have f_g3 : fT g0 g3 := by rw [e]; exact fT_fl f_g2 (by decide)
                clear e
                refine oS_ite (fun hb => ?_) (fun hb => ?_)
                · refine oS_let fun g4 e => ?_
                  have f_g4 : fT g0 g4 := by rw [e]; exact fT_up f_g3 (by decide)
                  clear e
                  refine oS_let fun p4 e_p4 => ?_
                  refine oS_let fun g5 e => ?_
                  have f_g5 : fT g0 g5 := by rw [e, e_p4]; exact fT_tr f_g4 fn63_tq
                  clear e
                  exact f_g5
                · refine oS_let fun g4 e => ?_
                  have f_g4 : fT g0 g4 := by rw [e]; exact fT_77 f_g3 (by decide)
                  clear e
                  refine oS_let fun g5 e => ?_
                  have f_g5 : fT g0 g5 := by rw [e]; exact fT_up f_g4 (by decide)
                  clear e
                  refine oS_let fun p5 e_p5 => ?_
                  refine oS_let fun g6 e => ?_
                  have f_g6 : fT g0 g6 := by rw [e, e_p5]; exact fT_tr f_g5 fn63_tq
                  clear e
                  exact f_g6
              · exact f_g2
            · exact f_g1
          · exact f_g1
      · exact f_g0
  · unfold dn74
    exact f_g0
noncomputable def fW (g g_q : rHp) : Prop := (∃ j, g_q 40 0 j ≠ 0) → (∀ K : Nat, K ∉ [15, 103, 104, 111] → g_q K = g K) ∧ ∀ j : Int, j ∉ [(72 : Int), 77, 94] → g_q 15 0 j = g 15 0 j
theorem fW_refl {g : rHp} : fW g g := fun _ => ⟨fun _ _ => rfl, fun _ _ => rfl⟩
theorem fW_zero {g : rHp} : fW g (fun _ _ _ => 0) := fun ⟨_, h⟩ => absurd rfl h
theorem fW_tr {a b c : rHp} (h1 : fW a b) (h2 : fW b c) : fW a c := fun z => by
  obtain ⟨b1, b2⟩ := h2 z
  obtain ⟨a1, a2⟩ := h1 (by rw [← b1 40 (by decide)]; exact z)
  exact ⟨fun K w => (b1 K w).trans (a1 K w), fun j w => (b2 j w).trans (a2 j w)⟩
theorem fW_up {a b : rHp} {K : Nat} {o j v : Int} (h : fW a b) (hK : K ∈ [103, 104, 111]) : fW a (rUp b K o j v) := by
  have n15 : (15 : Nat) ≠ K := by rintro rfl; exact absurd hK (by decide)
  have n40 : (40 : Nat) ≠ K := by rintro rfl; exact absurd hK (by decide)
  unfold fW
  rw [rUp_grp n15, rUp_grp n40]
  intro z
  refine ⟨fun i w => ?_, (h z).2⟩
  rw [rUp_grp (by rintro rfl; exact w (List.mem_cons_of_mem _ hK))]
  exact (h z).1 i w
theorem fW_fl {a b : rHp} {j v : Int} (h : fW a b) (hj : j ∈ [(72 : Int), 77, 94]) : fW a (rUp b 15 0 j v) := by
  unfold fW
  rw [rUp_grp (show (40 : Nat) ≠ 15 by decide)]
  intro z
  refine ⟨fun i w => ?_, fun i w => ?_⟩
  · rw [rUp_grp (by rintro rfl; exact absurd List.mem_cons_self w)]
    exact (h z).1 i w
  · rw [rUp_ne (fun w2 => by rw [w2.2.2] at w; exact w hj)]
    exact (h z).2 i w
theorem fn55_wq {x : List Int} {g0 : rHp} : fW g0 (fn55 x g0).2.2 := by
  have f_g0 : fW g0 g0 := fW_refl
  show oP (fun h => fW g0 h) (fn55 x g0)
  unfold fn55
  refine oP_dl ?_
  refine oP_ite (fun hb => ?_) (fun hb => ?_)
  · exact f_g0
  · exact f_g0
theorem fn58_wq {x : List Int} {g0 : rHp} : fW g0 (fn58 x g0).2.2 := by
  have f_g0 : fW g0 g0 := fW_refl
  show oP (fun h => fW g0 h) (fn58 x g0)
  unfold fn58
  refine oP_dl ?_
  refine oP_dl ?_
  refine oP_ite (fun hb => ?_) (fun hb => ?_)
  · refine oP_dl ?_
    exact f_g0
  · refine oP_dl ?_
    refine oP_dl ?_
    exact f_g0
theorem fn59_wq {x : List Int} {g0 : rHp} : fW g0 (fn59 x g0).2.2 := by
  have f_g0 : fW g0 g0 := fW_refl
  show oP (fun h => fW g0 h) (fn59 x g0)
  unfold fn59
  refine oP_dl ?_
  refine oP_dl ?_
  refine oP_dl ?_
  refine oP_ite (fun hb => ?_) (fun hb => ?_)
  · exact f_g0
  · refine oP_ite (fun hb => ?_) (fun hb => ?_)
    · exact f_g0
    · exact f_g0
theorem fn60_wq {x : List Int} {g0 : rHp} : fW g0 (fn60 x g0).2.2 := by
  have f_g0 : fW g0 g0 := fW_refl
  refine zGoo_P (I := fun s => fW g0 s.2.2) fW_zero (fun s hs => ?_) ?_
  · unfold en60
    refine oS_ite (fun hb => ?_) (fun hb => ?_)
    · refine oS_let fun g1 e => ?_
      have f_g1 : fW g0 g1 := by rw [e]; exact hs
      clear e
      refine oS_dl ?_
      refine oS_dl ?_
      refine oS_dl ?_
      refine oS_dl ?_
      refine oS_ite (fun hb => ?_) (fun hb => ?_)
      · exact f_g1
      · refine oS_dl ?_
        refine oS_dl ?_
        refine oS_ite (fun hb => ?_) (fun hb => ?_)
        · refine oS_ite (fun hb => ?_) (fun hb => ?_)
          · exact f_g1
          · refine oS_dl ?_
            refine oS_dl ?_
            refine oS_dl ?_
            refine oS_dl ?_
            refine oS_dl ?_
            refine oS_ite (fun hb => ?_) (fun hb => ?_)
            · exact f_g1
            · refine oS_dl ?_
              refine oS_ite (fun hb => ?_) (fun hb => ?_)
              · exact f_g1
              · exact f_g1
        · refine oS_dl ?_
          refine oS_ite (fun hb => ?_) (fun hb => ?_)
          · exact f_g1
          · exact f_g1
    · refine oS_ite (fun hb => ?_) (fun hb => ?_)
      · refine oS_let fun g1 e => ?_
        have f_g1 : fW g0 g1 := by rw [e]; exact hs
        clear e
        refine oS_dl ?_
        refine oS_dl ?_
        refine oS_dl ?_
        refine oS_dl ?_
        refine oS_dl ?_
        refine oS_dl ?_
        refine oS_dl ?_
        refine oS_ite (fun hb => ?_) (fun hb => ?_)
        · exact f_g1
        · refine oS_ite (fun hb => ?_) (fun hb => ?_)
          · exact f_g1
          · refine oS_dl ?_
            refine oS_ite (fun hb => ?_) (fun hb => ?_)
            · exact f_g1
            · refine oS_dl ?_
              refine oS_dl ?_
              refine oS_ite (fun hb => ?_) (fun hb => ?_)
              · exact f_g1
              · refine oS_dl ?_
                refine oS_ite (fun hb => ?_) (fun hb => ?_)
                · exact f_g1
                · exact f_g1
      · exact f_g0
  · unfold dn60
    refine oS_dl ?_
    refine oS_dl ?_
    refine oS_dl ?_
    refine oS_dl ?_
    exact f_g0
theorem fn63_wq {x : List Int} {g0 : rHp} : fW g0 (fn63 x g0).2.2 := by
  have f_g0 : fW g0 g0 := fW_refl
  refine zGoo_P (I := fun s => fW g0 s.2.2) fW_zero (fun s hs => ?_) ?_
  · unfold en63
    refine oS_ite (fun hb => ?_) (fun hb => ?_)
    · refine oS_let fun g1 e => ?_
      have f_g1 : fW g0 g1 := by rw [e]; exact hs
      clear e
      refine oS_dl ?_
      refine oS_dl ?_
      refine oS_dl ?_
      refine oS_dl ?_
      refine oS_ite (fun hb => ?_) (fun hb => ?_)
      · exact f_g1
      · refine oS_dl ?_
        refine oS_ite (fun hb => ?_) (fun hb => ?_)
        · exact f_g1
        · refine oS_dl ?_
          refine oS_dl ?_
          refine oS_let fun g2 e => ?_
          have f_g2 : fW g0 g2 := by rw [e]; exact fW_up f_g1 (by decide)
          clear e
          exact f_g2
    · exact f_g0
  · unfold dn63
    refine oS_dl ?_
    refine oS_dl ?_
    refine oS_dl ?_
    refine oS_dl ?_
    exact f_g0
theorem fn66_wq {x : List Int} {g0 : rHp} : fW g0 (fn66 x g0).2.2 := by
  have f_g0 : fW g0 g0 := fW_refl
  show oP (fun h => fW g0 h) (fn66 x g0)
  unfold fn66
  refine oP_dl ?_
  refine oP_ite (fun hb => ?_) (fun hb => ?_)
  · refine oP_let fun g1 e => ?_
    have f_g1 : fW g0 g1 := by rw [e]; exact fW_fl f_g0 (by decide)
    clear e
    exact f_g1
  · refine oP_dl ?_
    refine oP_let fun g1 e => ?_
    have f_g1 : fW g0 g1 := by rw [e]; exact fW_up f_g0 (by decide)
    clear e
    refine oP_dl ?_
    refine oP_let fun g2 e => ?_
    have f_g2 : fW g0 g2 := by rw [e]; exact fW_up f_g1 (by decide)
    clear e
    refine oP_dl ?_
    refine oP_let fun g3 e => ?_
    have f_g3 : fW g0 g3 := by rw [e]; exact fW_up f_g2 (by decide)
    clear e
    refine oP_dl ?_
    refine oP_let fun g4 e => ?_
    have f_g4 : fW g0 g4 := by rw [e]; exact fW_up f_g3 (by decide)
    clear e
    refine oP_dl ?_
    refine oP_let fun g5 e => ?_
    have f_g5 : fW g0 g5 := by rw [e]; exact fW_up f_g4 (by decide)
    clear e
    refine oP_dl ?_
    refine oP_let fun g6 e => ?_
    have f_g6 : fW g0 g6 := by rw [e]; exact fW_up f_g5 (by decide)
    clear e
    refine oP_dl ?_
    refine oP_let fun g7 e => ?_
    have f_g7 : fW g0 g7 := by rw [e]; exact fW_up f_g6 (by decide)
    clear e
    refine oP_dl ?_
    refine oP_let fun g8 e => ?_
    have f_g8 : fW g0 g8 := by rw [e]; exact fW_up f_g7 (by decide)
    clear e
    refine oP_let fun g9 e => ?_
    have f_g9 : fW g0 g9 := by rw [e]; exact fW_fl f_g8 (by decide)
    clear e
    exact f_g9
theorem fn65_wq {x : List Int} {g0 : rHp} : fW g0 (fn65 x g0).2.2 := by
  have f_g0 : fW g0 g0 := fW_refl
  show oP (fun h => fW g0 h) (fn65 x g0)
  unfold fn65
  refine oP_dl ?_
  refine oP_dl ?_
  refine oP_dl ?_
  refine oP_let fun p0 e_p0 => ?_
  refine oP_let fun g1 e => ?_
  have f_g1 : fW g0 g1 := by rw [e, e_p0]; exact fW_tr f_g0 fn58_wq
  clear e
  refine oP_let fun p1 e_p1 => ?_
  refine oP_let fun g2 e => ?_
  have f_g2 : fW g0 g2 := by rw [e, e_p1]; exact fW_tr f_g1 fn58_wq
  clear e
  refine oP_dl ?_
  refine oP_let fun p2 e_p2 => ?_
  refine oP_let fun g3 e => ?_
  have f_g3 : fW g0 g3 := by rw [e, e_p2]; exact fW_tr f_g2 fn58_wq
  clear e
  refine oP_dl ?_
  refine oP_let fun p3 e_p3 => ?_
  refine oP_let fun g4 e => ?_
  have f_g4 : fW g0 g4 := by rw [e, e_p3]; exact fW_tr f_g3 fn55_wq
  clear e
  refine oP_ite (fun hb => ?_) (fun hb => ?_)
  · refine oP_let fun p4 e_p4 => ?_
    refine oP_let fun g5 e => ?_
    have f_g5 : fW g0 g5 := by rw [e, e_p4]; exact fW_tr f_g4 fn55_wq
    clear e
    refine oP_ite (fun hb => ?_) (fun hb => ?_)
    · refine oP_ite (fun hb => ?_) (fun hb => ?_)
      · refine oP_ite (fun hb => ?_) (fun hb => ?_)
        · refine oP_dl ?_
          refine oP_ite (fun hb => ?_) (fun hb => ?_)
          · exact f_g5
          · refine oP_ite (fun hb => ?_) (fun hb => ?_)
            · refine oP_let fun g6 e => ?_
              have f_g6 : fW g0 g6 := by rw [e]; exact fW_up f_g5 (by decide)
              clear e
              exact f_g6
            · exact f_g5
        · refine oP_ite (fun hb => ?_) (fun hb => ?_)
          · exact f_g5
          · refine oP_ite (fun hb => ?_) (fun hb => ?_)
            · refine oP_let fun g6 e => ?_
              have f_g6 : fW g0 g6 := by rw [e]; exact fW_up f_g5 (by decide)
              clear e
              exact f_g6
            · exact f_g5
      · refine oP_ite (fun hb => ?_) (fun hb => ?_)
        · exact f_g5
        · refine oP_ite (fun hb => ?_) (fun hb => ?_)
          · refine oP_let fun g6 e => ?_
            have f_g6 : fW g0 g6 := by rw [e]; exact fW_up f_g5 (by decide)
            clear e
            exact f_g6
          · exact f_g5
    · exact f_g5
  · exact f_g4
theorem fn61_wq {x : List Int} {g0 : rHp} : fW g0 (fn61 x g0).2.2 := by
  have f_g0 : fW g0 g0 := fW_refl
  refine zGoo_P (I := fun s => fW g0 s.2.2) fW_zero (fun s hs => ?_) ?_
  · unfold en61
    refine oS_ite (fun hb => ?_) (fun hb => ?_)
    · refine oS_let fun g1 e => ?_
      have f_g1 : fW g0 g1 := by rw [e]; exact hs
      clear e
      refine oS_dl ?_
      refine oS_dl ?_
      refine oS_dl ?_
      refine oS_dl ?_
      refine oS_ite (fun hb => ?_) (fun hb => ?_)
      · exact f_g1
      · refine oS_dl ?_
        refine oS_ite (fun hb => ?_) (fun hb => ?_)
        · exact f_g1
        · exact f_g1
    · refine oS_ite (fun hb => ?_) (fun hb => ?_)
      · refine oS_let fun g1 e => ?_
        have f_g1 : fW g0 g1 := by rw [e]; exact hs
        clear e
        refine oS_dl ?_
        refine oS_dl ?_
        refine oS_dl ?_
        refine oS_ite (fun hb => ?_) (fun hb => ?_)
        · exact f_g1
        · refine oS_dl ?_
          refine oS_ite (fun hb => ?_) (fun hb => ?_)
          · exact f_g1
          · refine oS_dl ?_
            refine oS_let fun p1 e_p1 => ?_
            refine oS_let fun g2 e => ?_
            have f_g2 : fW g0 g2 := by rw [e, e_p1]; exact fW_tr f_g1 fn59_wq
            clear e
            refine oS_ite (fun hb => ?_) (fun hb => ?_)
            · exact f_g2
            · exact f_g2
      · exact f_g0
  · unfold dn61
    refine oS_dl ?_
    refine oS_dl ?_
    refine oS_dl ?_
    refine oS_ite (fun hb => ?_) (fun hb => ?_)
    · exact f_g0
    · exact f_g0
theorem fn64_wq {x : List Int} {g0 : rHp} : fW g0 (fn64 x g0).2.2 := by
  have f_g0 : fW g0 g0 := fW_refl
  refine zGoo_P (I := fun s => fW g0 s.2.2) fW_zero (fun s hs => ?_) ?_
  · unfold en64
    refine oS_ite (fun hb => ?_) (fun hb => ?_)
    · refine oS_let fun g1 e => ?_
      have f_g1 : fW g0 g1 := by rw [e]; exact hs
      clear e
      refine oS_dl ?_
      refine oS_dl ?_
      refine oS_dl ?_
      refine oS_ite (fun hb => ?_) (fun hb => ?_)
      · exact f_g1
      · refine oS_let fun p1 e_p1 => ?_
        refine oS_let fun g2 e => ?_
        have f_g2 : fW g0 g2 := by rw [e, e_p1]; exact fW_tr f_g1 fn60_wq
        clear e
        refine oS_ite (fun hb => ?_) (fun hb => ?_)
        · exact f_g2
        · refine oS_dl ?_
          refine oS_ite (fun hb => ?_) (fun hb => ?_)
          · exact f_g2
          · exact f_g2
    · exact f_g0
  · unfold dn64
    refine oS_dl ?_
    refine oS_dl ?_
    refine oS_ite (fun hb => ?_) (fun hb => ?_)
    · refine oS_dl ?_
      refine oS_dl ?_
      refine oS_ite (fun hb => ?_) (fun hb => ?_)
      · exact f_g0
      · exact f_g0
    · refine oS_ite (fun hb => ?_) (fun hb => ?_)
      · refine oS_let fun p0 e_p0 => ?_
        refine oS_let fun g1 e => ?_
        have f_g1 : fW g0 g1 := by rw [e, e_p0]; exact fW_tr f_g0 fn58_wq
        clear e
        refine oS_dl ?_
        refine oS_let fun p1 e_p1 => ?_
        refine oS_let fun g2 e => ?_
        have f_g2 : fW g0 g2 := by rw [e, e_p1]; exact fW_tr f_g1 fn58_wq
        clear e
        refine oS_dl ?_
        refine oS_let fun p2 e_p2 => ?_
        refine oS_let fun g3 e => ?_
        have f_g3 : fW g0 g3 := by rw [e, e_p2]; exact fW_tr f_g2 fn55_wq
        clear e
        refine oS_ite (fun hb => ?_) (fun hb => ?_)
        · refine oS_let fun p3 e_p3 => ?_
          refine oS_let fun g4 e => ?_
          have f_g4 : fW g0 g4 := by rw [e, e_p3]; exact fW_tr f_g3 fn55_wq
          clear e
          refine oS_ite (fun hb => ?_) (fun hb => ?_)
          · refine oS_ite (fun hb => ?_) (fun hb => ?_)
            · exact f_g4
            · exact f_g4
          · exact f_g4
        · exact f_g3
      · refine oS_ite (fun hb => ?_) (fun hb => ?_)
        · refine oS_let fun p0 e_p0 => ?_
          refine oS_let fun g1 e => ?_
          have f_g1 : fW g0 g1 := by rw [e, e_p0]; exact fW_tr f_g0 fn58_wq
          clear e
          refine oS_dl ?_
          refine oS_let fun p1 e_p1 => ?_
          refine oS_let fun g2 e => ?_
          have f_g2 : fW g0 g2 := by rw [e, e_p1]; exact fW_tr f_g1 fn58_wq
          clear e
          refine oS_dl ?_
          refine oS_ite (fun hb => ?_) (fun hb => ?_)
          · exact f_g2
          · exact f_g2
        · refine oS_let fun p0 e_p0 => ?_
          refine oS_let fun g1 e => ?_
          have f_g1 : fW g0 g1 := by rw [e, e_p0]; exact fW_tr f_g0 fn58_wq
          clear e
          refine oS_dl ?_
          refine oS_let fun p1 e_p1 => ?_
          refine oS_let fun g2 e => ?_
          have f_g2 : fW g0 g2 := by rw [e, e_p1]; exact fW_tr f_g1 fn58_wq
          clear e
          refine oS_dl ?_
          refine oS_ite (fun hb => ?_) (fun hb => ?_)
          · exact f_g2
          · exact f_g2
theorem fn62_wq {x : List Int} {g0 : rHp} : fW g0 (fn62 x g0).2.2 := by
  have f_g0 : fW g0 g0 := fW_refl
  refine zGoo_P (I := fun s => fW g0 s.2.2) fW_zero (fun s hs => ?_) ?_
  · unfold en62
    refine oS_ite (fun hb => ?_) (fun hb => ?_)
    · refine oS_let fun g1 e => ?_
      have f_g1 : fW g0 g1 := by rw [e]; exact hs
      clear e
      refine oS_dl ?_
      refine oS_dl ?_
      refine oS_dl ?_
      refine oS_dl ?_
      refine oS_dl ?_
      refine oS_dl ?_
      refine oS_ite (fun hb => ?_) (fun hb => ?_)
      · exact f_g1
      · refine oS_ite (fun hb => ?_) (fun hb => ?_)
        · refine oS_let fun p1 e_p1 => ?_
          refine oS_let fun g2 e => ?_
          have f_g2 : fW g0 g2 := by rw [e, e_p1]; exact fW_tr f_g1 fn60_wq
          clear e
          refine oS_ite (fun hb => ?_) (fun hb => ?_)
          · exact f_g2
          · refine oS_dl ?_
            refine oS_ite (fun hb => ?_) (fun hb => ?_)
            · exact f_g2
            · exact f_g2
        · refine oS_let fun p1 e_p1 => ?_
          refine oS_let fun g2 e => ?_
          have f_g2 : fW g0 g2 := by rw [e, e_p1]; exact fW_tr f_g1 fn59_wq
          clear e
          refine oS_ite (fun hb => ?_) (fun hb => ?_)
          · refine oS_let fun p2 e_p2 => ?_
            refine oS_let fun g3 e => ?_
            have f_g3 : fW g0 g3 := by rw [e, e_p2]; exact fW_tr f_g2 fn60_wq
            clear e
            refine oS_ite (fun hb => ?_) (fun hb => ?_)
            · exact f_g3
            · refine oS_dl ?_
              refine oS_ite (fun hb => ?_) (fun hb => ?_)
              · exact f_g3
              · exact f_g3
          · refine oS_dl ?_
            refine oS_ite (fun hb => ?_) (fun hb => ?_)
            · exact f_g2
            · exact f_g2
    · exact f_g0
  · unfold dn62
    refine oS_dl ?_
    refine oS_dl ?_
    refine oS_dl ?_
    refine oS_let fun p0 e_p0 => ?_
    refine oS_let fun g1 e => ?_
    have f_g1 : fW g0 g1 := by rw [e, e_p0]; exact fW_tr f_g0 fn61_wq
    clear e
    refine oS_ite (fun hb => ?_) (fun hb => ?_)
    · refine oS_ite (fun hb => ?_) (fun hb => ?_)
      · exact f_g1
      · exact f_g1
    · refine oS_ite (fun hb => ?_) (fun hb => ?_)
      · exact f_g1
      · exact f_g1
theorem fn74_wq {x : List Int} {g0 : rHp} : fW g0 (fn74 x g0).2.2 := by
  have f_g0 : fW g0 g0 := fW_refl
  refine zGoo_P (I := fun s => fW g0 s.2.2) fW_zero (fun s hs => ?_) ?_
  · unfold en74
    refine oS_ite (fun hb => ?_) (fun hb => ?_)
    · refine oS_let fun g1 e => ?_
      have f_g1 : fW g0 g1 := by rw [e]; exact hs
      clear e
      refine oS_dl ?_
      refine oS_dl ?_
      refine oS_dl ?_
      refine oS_dl ?_
      refine oS_ite (fun hb => ?_) (fun hb => ?_)
      · exact f_g1
      · refine oS_ite (fun hb => ?_) (fun hb => ?_)
        · refine oS_dl ?_
          refine oS_ite (fun hb => ?_) (fun hb => ?_)
          · refine oS_ite (fun hb => ?_) (fun hb => ?_)
            · refine oS_dl ?_
              refine oS_dl ?_
              refine oS_let fun p1 e_p1 => ?_
              refine oS_let fun g2 e => ?_
              have f_g2 : fW g0 g2 := by rw [e, e_p1]; exact fW_tr f_g1 fn62_wq
              clear e
              refine oS_dl ?_
              refine oS_ite (fun hb => ?_) (fun hb => ?_)
              · refine oS_let fun g3 e => ?_
                have f_g3 : fW g0 g3 := by rw [e]; exact fW_fl f_g2 (by decide)
                clear e
                refine oS_ite (fun hb => ?_) (fun hb => ?_)
                · refine oS_let fun g4 e => ?_
                  have f_g4 : fW g0 g4 := by rw [e]; exact fW_up f_g3 (by decide)
                  clear e
                  refine oS_let fun p4 e_p4 => ?_
                  refine oS_let fun g5 e => ?_
                  have f_g5 : fW g0 g5 := by rw [e, e_p4]; exact fW_tr f_g4 fn63_wq
                  clear e
                  exact f_g5
                · refine oS_let fun g4 e => ?_
                  have f_g4 : fW g0 g4 := by rw [e]; exact fW_fl f_g3 (by decide)
                  clear e
                  refine oS_let fun g5 e => ?_
                  have f_g5 : fW g0 g5 := by rw [e]; exact fW_up f_g4 (by decide)
                  clear e
                  refine oS_let fun p5 e_p5 => ?_
                  refine oS_let fun g6 e => ?_
                  have f_g6 : fW g0 g6 := by rw [e, e_p5]; exact fW_tr f_g5 fn63_wq
                  clear e
                  exact f_g6
              · exact f_g2
            · refine oS_let fun p1 e_p1 => ?_
              refine oS_let fun g2 e => ?_
              have f_g2 : fW g0 g2 := by rw [e, e_p1]; exact fW_tr f_g1 fn64_wq
              clear e
              refine oS_ite (fun hb => ?_) (fun hb => ?_)
              · exact f_g2
              · exact f_g2
          · refine oS_let fun p1 e_p1 => ?_
            refine oS_let fun g2 e => ?_
            have f_g2 : fW g0 g2 := by rw [e, e_p1]; exact fW_tr f_g1 fn65_wq
            clear e
            refine oS_ite (fun hb => ?_) (fun hb => ?_)
            · exact f_g2
            · exact f_g2
        · refine oS_let fun p1 e_p1 => ?_
          refine oS_let fun g2 e => ?_
          have f_g2 : fW g0 g2 := by rw [e, e_p1]; exact fW_tr f_g1 fn66_wq
          clear e
          exact f_g2
    · refine oS_ite (fun hb => ?_) (fun hb => ?_)
      · refine oS_let fun g1 e => ?_
        have f_g1 : fW g0 g1 := by rw [e]; exact hs
        clear e
        refine oS_dl ?_
        refine oS_dl ?_
        refine oS_ite (fun hb => ?_) (fun hb => ?_)
        · exact f_g1
        · refine oS_dl ?_
          refine oS_ite (fun hb => ?_) (fun hb => ?_)
          · refine oS_ite (fun hb => ?_) (fun hb => ?_)
            · refine oS_dl ?_
              refine oS_dl ?_
              refine oS_let fun p1 e_p1 => ?_
              refine oS_let fun g2 e => ?_
              have f_g2 : fW g0 g2 := by rw [e, e_p1]; exact fW_tr f_g1 fn62_wq
              clear e
              refine oS_dl ?_
              refine oS_ite (fun hb => ?_) (fun hb => ?_)
              · refine oS_let fun g3 e => ?_
                have f_g3 : fW g0 g3 := by rw [e]; exact fW_fl f_g2 (by decide)
                clear e
                refine oS_ite (fun hb => ?_) (fun hb => ?_)
                · refine oS_let fun g4 e => ?_
                  have f_g4 : fW g0 g4 := by rw [e]; exact fW_up f_g3 (by decide)
                  clear e
                  refine oS_let fun p4 e_p4 => ?_
                  refine oS_let fun g5 e => ?_
                  have f_g5 : fW g0 g5 := by rw [e, e_p4]; exact fW_tr f_g4 fn63_wq
                  clear e
                  exact f_g5
                · refine oS_let fun g4 e => ?_
                  have f_g4 : fW g0 g4 := by rw [e]; exact fW_fl f_g3 (by decide)
                  clear e
                  refine oS_let fun g5 e => ?_
                  have f_g5 : fW g0 g5 := by rw [e]; exact fW_up f_g4 (by decide)
                  clear e
                  refine oS_let fun p5 e_p5 => ?_
                  refine oS_let fun g6 e => ?_
                  have f_g6 : fW g0 g6 := by rw [e, e_p5]; exact fW_tr f_g5 fn63_wq
                  clear e
                  exact f_g6
              · exact f_g2
            · exact f_g1
          · exact f_g1
      · exact f_g0
  · unfold dn74
    exact f_g0
