/-! ===== what reading leaves as it is: the class ===== -/
noncomputable def oP (Q : rHp → Prop) (r : zR) : Prop := Q r.2.2
noncomputable def oS (Q : rHp → Prop) (I : Nat × List Int × rHp → Prop) : zSt → Prop
  | .inl s => I s
  | .inr r => Q r.2.2
theorem oP_let {Q : rHp → Prop} {α : Type} {x : α} {f : α → zR} (h : ∀ y, y = x → oP Q (f y)) : oP Q (zLet x f) := h x rfl
theorem oP_dl {Q : rHp → Prop} {α : Type} {x : α} {f : α → zR} (h : oP Q (f x)) : oP Q (zLet x f) := h
theorem oP_ite {Q : rHp → Prop} {c : Prop} [Decidable c] {a b : zR} (h1 : c → oP Q a) (h2 : ¬ c → oP Q b) : oP Q (if c then a else b) := by
  by_cases h : c
  · rw [if_pos h]; exact h1 h
  · rw [if_neg h]; exact h2 h
theorem oS_let {Q : rHp → Prop} {I : Nat × List Int × rHp → Prop} {α : Type} {x : α} {f : α → zSt} (h : ∀ y, y = x → oS Q I (f y)) : oS Q I (zLet x f) := h x rfl
theorem oS_dl {Q : rHp → Prop} {I : Nat × List Int × rHp → Prop} {α : Type} {x : α} {f : α → zSt} (h : oS Q I (f x)) : oS Q I (zLet x f) := h
theorem oS_ite {Q : rHp → Prop} {I : Nat × List Int × rHp → Prop} {c : Prop} [Decidable c] {a b : zSt} (h1 : c → oS Q I a) (h2 : ¬ c → oS Q I b) : oS Q I (if c then a else b) := by
  by_cases h : c
  · rw [if_pos h]; exact h1 h
  · rw [if_neg h]; exact h2 h
theorem zIt_P {Q : rHp → Prop} {I : Nat × List Int × rHp → Prop} {E : (Nat × List Int × rHp) → zSt} (hE : ∀ s, I s → oS Q I (E s)) : ∀ (f : Nat) (s : Nat × List Int × rHp) (r : zR), I s → zIt E f s = some r → Q r.2.2 := by
  intro f
  induction f with
  | zero => intro s r _ h; cases h
  | succ f ih =>
    intro s r hI h
    have e := hE s hI
    unfold zIt at h
    cases q : E s with
    | inl s_q =>
      rw [q] at h e
      exact ih s_q r e h
    | inr r_q =>
      rw [q] at h e
      cases h
      exact e
theorem zLoop_P {Q : rHp → Prop} {I : Nat × List Int × rHp → Prop} {E : (Nat × List Int × rHp) → zSt} (h0 : Q (fun _ _ _ => 0)) (hE : ∀ s, I s → oS Q I (E s)) {s : Nat × List Int × rHp} (hI : I s) : Q (zLoop E s).2.2 := by
  by_cases h : ∃ r, ∃ f, zIt E f s = some r
  · obtain ⟨r, f, h⟩ := h
    rw [zLoop_at h]
    exact zIt_P hE f s r hI h
  · have e : zLoop E s = (0, 0, fun _ _ _ => 0) := by
      unfold zLoop
      rw [dif_neg h]
    rw [e]
    exact h0
theorem zGoo_P {Q : rHp → Prop} {I : Nat × List Int × rHp → Prop} {E : (Nat × List Int × rHp) → zSt} {d : zSt} (h0 : Q (fun _ _ _ => 0)) (hE : ∀ s, I s → oS Q I (E s)) (hd : oS Q I d) : Q (zGoo E d).2.2 := by
  cases d with
  | inl s => exact zLoop_P h0 hE hd
  | inr r => exact hd
/-- g_q is g but for the ATOM or HEAD at G, as far as RULES go -/
noncomputable def fO (G : Int) (g g_q : rHp) : Prop := g_q 2 0 3 ≠ 0 → g_q 2 0 3 = g 2 0 3 ∧ g_q 1 0 10 = g 1 0 10 ∧ g_q 40 = g 40 ∧ g_q 9 = g 9 ∧ ∀ (K : Nat) (h : Int), K = 10 ∨ K = 43 ∨ K = 44 ∨ K = 45 ∨ K = 46 → h ≠ G → g_q K h = g K h
noncomputable def qH0 (g : rHp) : Int := 9 * g 40 0 (g 1 0 10)
theorem fO_refl {G : Int} {g : rHp} : fO G g g := fun _ => ⟨rfl, rfl, rfl, rfl, fun _ _ _ _ => rfl⟩
theorem fO_zero {G : Int} {g : rHp} : fO G g (fun _ _ _ => 0) := fun h => absurd rfl h
theorem fO_tr {G : Int} {a b c : rHp} (h1 : fO G a b) (h2 : fO G b c) : fO G a c := fun h => by
  obtain ⟨b0, b1, b2, b3, b4⟩ := h2 h
  obtain ⟨a0, a1, a2, a3, a4⟩ := h1 (by rw [← b0]; exact h)
  exact ⟨b0.trans a0, b1.trans a1, b2.trans a2, b3.trans a3, fun K h q1 q2 => (b4 K h q1 q2).trans (a4 K h q1 q2)⟩
theorem fO_g {a b c : rHp} (h1 : fO (qG a) a b) (h2 : fO (qG b) b c) : fO (qG a) a c := fun h => by
  obtain ⟨a0, a1, a2, a3, a4⟩ := h1 (by rw [← (h2 h).1]; exact h)
  have e : qG b = qG a := by unfold qG; rw [a1, a2, a3]
  rw [e] at h2
  exact fO_tr h1 h2 h
theorem fO_h {a b c : rHp} (h1 : fO (qH0 a) a b) (h2 : fO (qH0 b) b c) : fO (qH0 a) a c := fun h => by
  obtain ⟨a0, a1, a2, a3, a4⟩ := h1 (by rw [← (h2 h).1]; exact h)
  have e : qH0 b = qH0 a := by unfold qH0; rw [a1, a2]
  rw [e] at h2
  exact fO_tr h1 h2 h
theorem fO_up {G : Int} {a b : rHp} {K : Nat} {o j v : Int} (h : fO G a b) (hK : K ≠ 1 ∧ K ≠ 2 ∧ K ≠ 9 ∧ K ≠ 10 ∧ K ≠ 40 ∧ K ≠ 43 ∧ K ≠ 44 ∧ K ≠ 45 ∧ K ≠ 46) : fO G a (rUp b K o j v) := by
  unfold fO
  rw [rUp_grp (Ne.symm hK.1), rUp_grp (Ne.symm hK.2.1), rUp_grp (Ne.symm hK.2.2.1), rUp_grp (Ne.symm hK.2.2.2.2.1)]
  intro q
  obtain ⟨b0, b1, b2, b3, b4⟩ := h q
  refine ⟨b0, b1, b2, b3, fun k h q1 q2 => ?_⟩
  rw [rUp_grp (by omega)]
  exact b4 k h q1 q2
theorem fO_1 {G : Int} {a b : rHp} {o j v : Int} (h : fO G a b) (hj : j ≠ 10) : fO G a (rUp b 1 o j v) := by
  unfold fO
  rw [rUp_grp (show (2 : Nat) ≠ 1 by decide), rUp_grp (show (9 : Nat) ≠ 1 by decide), rUp_grp (show (40 : Nat) ≠ 1 by decide), rUp_ne (show ¬ ((1 : Nat) = 1 ∧ (0 : Int) = o ∧ (10 : Int) = j) from fun z => hj z.2.2.symm)]
  intro q
  obtain ⟨b0, b1, b2, b3, b4⟩ := h q
  refine ⟨b0, b1, b2, b3, fun k h q1 q2 => ?_⟩
  rw [rUp_grp (by omega)]
  exact b4 k h q1 q2
theorem fO_2 {G : Int} {a b : rHp} {o j v : Int} (h : fO G a b) (hj : j ≠ 3) : fO G a (rUp b 2 o j v) := by
  unfold fO
  rw [rUp_grp (show (1 : Nat) ≠ 2 by decide), rUp_grp (show (9 : Nat) ≠ 2 by decide), rUp_grp (show (40 : Nat) ≠ 2 by decide), rUp_ne (show ¬ ((2 : Nat) = 2 ∧ (0 : Int) = o ∧ (3 : Int) = j) from fun z => hj z.2.2.symm)]
  intro q
  obtain ⟨b0, b1, b2, b3, b4⟩ := h q
  refine ⟨b0, b1, b2, b3, fun k h q1 q2 => ?_⟩
  rw [rUp_grp (by omega)]
  exact b4 k h q1 q2
theorem fO_at {G : Int} {a b : rHp} {K : Nat} {o j v : Int} (h : fO G a b) (hK : K ≠ 1 ∧ K ≠ 2 ∧ K ≠ 9 ∧ K ≠ 40) (ho : o = G) : fO G a (rUp b K o j v) := by
  unfold fO
  rw [rUp_grp (Ne.symm hK.1), rUp_grp (Ne.symm hK.2.1), rUp_grp (Ne.symm hK.2.2.1), rUp_grp (Ne.symm hK.2.2.2)]
  intro q
  obtain ⟨b0, b1, b2, b3, b4⟩ := h q
  refine ⟨b0, b1, b2, b3, fun k h q1 q2 => ?_⟩
  funext y
  rw [rUp_ne (fun z => q2 (z.2.1.trans ho))]
  exact congrFun (b4 k h q1 q2) y
theorem fO_cp {G : Int} {a b : rHp} {K K2 : Nat} {o j o2 j2 n : Int} (h : fO G a b) (hK : K2 ≠ 1 ∧ K2 ≠ 2 ∧ K2 ≠ 9 ∧ K2 ≠ 10 ∧ K2 ≠ 40 ∧ K2 ≠ 43 ∧ K2 ≠ 44 ∧ K2 ≠ 45 ∧ K2 ≠ 46) : fO G a (zCpy b K o j K2 o2 j2 n) := by
  unfold fO
  rw [zCpy_grp (Ne.symm hK.1), zCpy_grp (Ne.symm hK.2.1), zCpy_grp (Ne.symm hK.2.2.1), zCpy_grp (Ne.symm hK.2.2.2.2.1)]
  intro q
  obtain ⟨b0, b1, b2, b3, b4⟩ := h q
  refine ⟨b0, b1, b2, b3, fun k h q1 q2 => ?_⟩
  rw [zCpy_grp (by omega)]
  exact b4 k h q1 q2
theorem fn99_o {x : List Int} {g0 : rHp} : fO (x.getD 0 0) g0 (fn99 x g0).2.2 := by
  have f_g0 : fO (x.getD 0 0) g0 g0 := fO_refl
  refine zGoo_P (I := fun s => fO (x.getD 0 0) g0 s.2.2 ∧ s.2.1.getD 0 0 = x.getD 0 0) fO_zero (fun s hs => ?_) ?_
  · unfold en99
    refine oS_ite (fun hb => ?_) (fun hb => ?_)
    · refine oS_let fun g1 e => ?_
      have f_g1 : fO (x.getD 0 0) g0 g1 := by rw [e]; exact hs.1
      clear e
      refine oS_dl ?_
      refine oS_dl ?_
      refine oS_dl ?_
      refine oS_ite (fun hb => ?_) (fun hb => ?_)
      · exact f_g1
      · refine oS_let fun g2 e => ?_
        have f_g2 : fO (x.getD 0 0) g0 g2 := by rw [e]; exact fO_at f_g1 (by decide) hs.2
        clear e
        exact ⟨f_g2, by first | exact hs.2 | rfl⟩
    · exact f_g0
  · unfold dn99
    refine oS_dl ?_
    refine oS_dl ?_
    exact ⟨f_g0, by first | exact hs.2 | rfl⟩
theorem fn104_o {x : List Int} {g0 : rHp} : fO (x.getD 0 0) g0 (fn104 x g0).2.2 := by
  have f_g0 : fO (x.getD 0 0) g0 g0 := fO_refl
  show oP (fun h => fO (x.getD 0 0) g0 h) (fn104 x g0)
  unfold fn104
  refine oP_dl ?_
  refine oP_dl ?_
  refine oP_dl ?_
  refine oP_dl ?_
  refine oP_dl ?_
  refine oP_dl ?_
  refine oP_ite (fun hb => ?_) (fun hb => ?_)
  · exact f_g0
  · refine oP_let fun g1 e => ?_
    have f_g1 : fO (x.getD 0 0) g0 g1 := by rw [e]; exact fO_at f_g0 (by decide) rfl
    clear e
    refine oP_let fun g2 e => ?_
    have f_g2 : fO (x.getD 0 0) g0 g2 := by rw [e]; exact fO_at f_g1 (by decide) rfl
    clear e
    refine oP_let fun g3 e => ?_
    have f_g3 : fO (x.getD 0 0) g0 g3 := by rw [e]; exact fO_at f_g2 (by decide) rfl
    clear e
    refine oP_let fun g4 e => ?_
    have f_g4 : fO (x.getD 0 0) g0 g4 := by rw [e]; exact fO_at f_g3 (by decide) rfl
    clear e
    refine oP_let fun g5 e => ?_
    have f_g5 : fO (x.getD 0 0) g0 g5 := by rw [e]; exact fO_at f_g4 (by decide) rfl
    clear e
    exact f_g5
theorem fn92_o {x : List Int} {g0 : rHp} {G : Int} : fO G g0 (fn92 x g0).2.2 := by
  have f_g0 : fO G g0 g0 := fO_refl
  refine zGoo_P (I := fun s => fO G g0 s.2.2) fO_zero (fun s hs => ?_) ?_
  · unfold en92
    refine oS_ite (fun hb => ?_) (fun hb => ?_)
    · refine oS_let fun g1 e => ?_
      have f_g1 : fO G g0 g1 := by rw [e]; exact hs
      clear e
      refine oS_dl ?_
      refine oS_dl ?_
      refine oS_dl ?_
      refine oS_ite (fun hb => ?_) (fun hb => ?_)
      · refine oS_ite (fun hb => ?_) (fun hb => ?_)
        · refine oS_let fun g2 e => ?_
          have f_g2 : fO G g0 g2 := by rw [e]; exact fO_up f_g1 (by decide)
          clear e
          refine oS_let fun g3 e => ?_
          have f_g3 : fO G g0 g3 := by rw [e]; exact fO_up f_g2 (by decide)
          clear e
          exact f_g3
        · exact f_g1
      · refine oS_dl ?_
        refine oS_ite (fun hb => ?_) (fun hb => ?_)
        · exact f_g1
        · exact f_g1
    · exact f_g0
  · unfold dn92
    refine oS_dl ?_
    exact f_g0
theorem fn109_o {x : List Int} {g0 : rHp} {G : Int} : fO G g0 (fn109 x g0).2.2 := by
  have f_g0 : fO G g0 g0 := fO_refl
  show oP (fun h => fO G g0 h) (fn109 x g0)
  unfold fn109
  refine oP_dl ?_
  refine oP_let fun g1 e => ?_
  have f_g1 : fO G g0 g1 := by rw [e]; exact fO_2 f_g0 (by decide)
  clear e
  exact f_g1
theorem fn105_o {x : List Int} {g0 : rHp} {G : Int} : fO G g0 (fn105 x g0).2.2 := by
  have f_g0 : fO G g0 g0 := fO_refl
  show oP (fun h => fO G g0 h) (fn105 x g0)
  unfold fn105
  refine oP_dl ?_
  refine oP_ite (fun hb => ?_) (fun hb => ?_)
  · exact f_g0
  · refine oP_ite (fun hb => ?_) (fun hb => ?_)
    · exact f_g0
    · exact f_g0
theorem fn107_o {x : List Int} {g0 : rHp} {G : Int} : fO G g0 (fn107 x g0).2.2 := by
  have f_g0 : fO G g0 g0 := fO_refl
  show oP (fun h => fO G g0 h) (fn107 x g0)
  unfold fn107
  refine oP_dl ?_
  refine oP_ite (fun hb => ?_) (fun hb => ?_)
  · exact f_g0
  · refine oP_ite (fun hb => ?_) (fun hb => ?_)
    · exact f_g0
    · exact f_g0
theorem fn114_o {x : List Int} {g0 : rHp} {G : Int} : fO G g0 (fn114 x g0).2.2 := by
  have f_g0 : fO G g0 g0 := fO_refl
  refine zGoo_P (I := fun s => fO G g0 s.2.2) fO_zero (fun s hs => ?_) ?_
  · unfold en114
    refine oS_ite (fun hb => ?_) (fun hb => ?_)
    · refine oS_let fun g1 e => ?_
      have f_g1 : fO G g0 g1 := by rw [e]; exact hs
      clear e
      refine oS_dl ?_
      refine oS_dl ?_
      refine oS_ite (fun hb => ?_) (fun hb => ?_)
      · exact f_g1
      · refine oS_dl ?_
        refine oS_ite (fun hb => ?_) (fun hb => ?_)
        · refine oS_let fun g2 e => ?_
          have f_g2 : fO G g0 g2 := by rw [e]; exact fO_2 f_g1 (by decide)
          clear e
          exact f_g2
        · refine oS_ite (fun hb => ?_) (fun hb => ?_)
          · refine oS_dl ?_
            exact f_g1
          · refine oS_let fun g2 e => ?_
            have f_g2 : fO G g0 g2 := by rw [e]; exact fO_2 f_g1 (by decide)
            clear e
            exact f_g2
    · exact f_g0
  · unfold dn114
    refine oS_dl ?_
    refine oS_dl ?_
    refine oS_ite (fun hb => ?_) (fun hb => ?_)
    · exact f_g0
    · refine oS_dl ?_
      refine oS_ite (fun hb => ?_) (fun hb => ?_)
      · refine oS_let fun g1 e => ?_
        have f_g1 : fO G g0 g1 := by rw [e]; exact fO_2 f_g0 (by decide)
        clear e
        exact f_g1
      · refine oS_ite (fun hb => ?_) (fun hb => ?_)
        · refine oS_dl ?_
          exact f_g0
        · refine oS_let fun g1 e => ?_
          have f_g1 : fO G g0 g1 := by rw [e]; exact fO_2 f_g0 (by decide)
          clear e
          exact f_g1
theorem fn117_o {x : List Int} {g0 : rHp} {G : Int} : fO G g0 (fn117 x g0).2.2 := by
  have f_g0 : fO G g0 g0 := fO_refl
  show oP (fun h => fO G g0 h) (fn117 x g0)
  unfold fn117
  refine oP_dl ?_
  refine oP_dl ?_
  refine oP_dl ?_
  refine oP_dl ?_
  refine oP_ite (fun hb => ?_) (fun hb => ?_)
  · exact f_g0
  · exact f_g0
theorem fn121_o {x : List Int} {g0 : rHp} {G : Int} : fO G g0 (fn121 x g0).2.2 := by
  have f_g0 : fO G g0 g0 := fO_refl
  show oP (fun h => fO G g0 h) (fn121 x g0)
  unfold fn121
  refine oP_dl ?_
  refine oP_dl ?_
  refine oP_dl ?_
  refine oP_ite (fun hb => ?_) (fun hb => ?_)
  · exact f_g0
  · refine oP_let fun g1 e => ?_
    have f_g1 : fO G g0 g1 := by rw [e]; exact fO_up f_g0 (by decide)
    clear e
    refine oP_let fun g2 e => ?_
    have f_g2 : fO G g0 g2 := by rw [e]; exact fO_up f_g1 (by decide)
    clear e
    refine oP_let fun g3 e => ?_
    have f_g3 : fO G g0 g3 := by rw [e]; exact fO_2 f_g2 (by decide)
    clear e
    exact f_g3
theorem fn119_o {x : List Int} {g0 : rHp} {G : Int} : fO G g0 (fn119 x g0).2.2 := by
  have f_g0 : fO G g0 g0 := fO_refl
  refine zGoo_P (I := fun s => fO G g0 s.2.2) fO_zero (fun s hs => ?_) ?_
  · unfold en119
    refine oS_ite (fun hb => ?_) (fun hb => ?_)
    · refine oS_let fun g1 e => ?_
      have f_g1 : fO G g0 g1 := by rw [e]; exact hs
      clear e
      refine oS_dl ?_
      refine oS_dl ?_
      refine oS_dl ?_
      refine oS_ite (fun hb => ?_) (fun hb => ?_)
      · exact f_g1
      · refine oS_dl ?_
        refine oS_ite (fun hb => ?_) (fun hb => ?_)
        · exact f_g1
        · exact f_g1
    · exact f_g0
  · unfold dn119
    refine oS_dl ?_
    exact f_g0
theorem fn106_o {x : List Int} {g0 : rHp} {G : Int} : fO G g0 (fn106 x g0).2.2 := by
  have f_g0 : fO G g0 g0 := fO_refl
  show oP (fun h => fO G g0 h) (fn106 x g0)
  unfold fn106
  refine oP_dl ?_
  refine oP_ite (fun hb => ?_) (fun hb => ?_)
  · exact f_g0
  · refine oP_ite (fun hb => ?_) (fun hb => ?_)
    · exact f_g0
    · exact f_g0
theorem fn125_o {x : List Int} {g0 : rHp} {G : Int} : fO G g0 (fn125 x g0).2.2 := by
  have f_g0 : fO G g0 g0 := fO_refl
  refine zGoo_P (I := fun s => fO G g0 s.2.2) fO_zero (fun s hs => ?_) ?_
  · unfold en125
    refine oS_ite (fun hb => ?_) (fun hb => ?_)
    · refine oS_let fun g1 e => ?_
      have f_g1 : fO G g0 g1 := by rw [e]; exact hs
      clear e
      refine oS_dl ?_
      refine oS_dl ?_
      refine oS_dl ?_
      refine oS_dl ?_
      refine oS_ite (fun hb => ?_) (fun hb => ?_)
      · exact f_g1
      · refine oS_dl ?_
        refine oS_ite (fun hb => ?_) (fun hb => ?_)
        · exact f_g1
        · refine oS_dl ?_
          refine oS_ite (fun hb => ?_) (fun hb => ?_)
          · exact f_g1
          · exact f_g1
    · exact f_g0
  · unfold dn125
    refine oS_dl ?_
    refine oS_dl ?_
    exact f_g0
theorem fn126_o {x : List Int} {g0 : rHp} {G : Int} : fO G g0 (fn126 x g0).2.2 := by
  have f_g0 : fO G g0 g0 := fO_refl
  show oP (fun h => fO G g0 h) (fn126 x g0)
  unfold fn126
  refine oP_dl ?_
  refine oP_dl ?_
  refine oP_dl ?_
  refine oP_ite (fun hb => ?_) (fun hb => ?_)
  · refine oP_let fun g1 e => ?_
    have f_g1 : fO G g0 g1 := by rw [e]; exact fO_up f_g0 (by decide)
    clear e
    refine oP_let fun g2 e => ?_
    have f_g2 : fO G g0 g2 := by rw [e]; exact fO_up f_g1 (by decide)
    clear e
    refine oP_let fun g3 e => ?_
    have f_g3 : fO G g0 g3 := by rw [e]; exact fO_1 f_g2 (by decide)
    clear e
    exact f_g3
  · exact f_g0
theorem fn122_o {x : List Int} {g0 : rHp} {G : Int} : fO G g0 (fn122 x g0).2.2 := by
  have f_g0 : fO G g0 g0 := fO_refl
  show oP (fun h => fO G g0 h) (fn122 x g0)
  unfold fn122
  refine oP_dl ?_
  refine oP_ite (fun hb => ?_) (fun hb => ?_)
  · refine oP_ite (fun hb => ?_) (fun hb => ?_)
    · refine oP_ite (fun hb => ?_) (fun hb => ?_)
      · refine oP_ite (fun hb => ?_) (fun hb => ?_)
        · exact f_g0
        · exact f_g0
      · exact f_g0
    · exact f_g0
  · exact f_g0
theorem fn143_o {x : List Int} {g0 : rHp} {G : Int} : fO G g0 (fn143 x g0).2.2 := by
  have f_g0 : fO G g0 g0 := fO_refl
  show oP (fun h => fO G g0 h) (fn143 x g0)
  unfold fn143
  refine oP_dl ?_
  refine oP_dl ?_
  refine oP_dl ?_
  refine oP_dl ?_
  refine oP_ite (fun hb => ?_) (fun hb => ?_)
  · refine oP_ite (fun hb => ?_) (fun hb => ?_)
    · exact f_g0
    · exact f_g0
  · refine oP_dl ?_
    refine oP_dl ?_
    refine oP_dl ?_
    refine oP_ite (fun hb => ?_) (fun hb => ?_)
    · exact f_g0
    · exact f_g0
theorem fn108_o {x : List Int} {g0 : rHp} {G : Int} : fO G g0 (fn108 x g0).2.2 := by
  have f_g0 : fO G g0 g0 := fO_refl
  show oP (fun h => fO G g0 h) (fn108 x g0)
  unfold fn108
  refine oP_dl ?_
  refine oP_ite (fun hb => ?_) (fun hb => ?_)
  · refine oP_ite (fun hb => ?_) (fun hb => ?_)
    · exact f_g0
    · refine oP_ite (fun hb => ?_) (fun hb => ?_)
      · refine oP_ite (fun hb => ?_) (fun hb => ?_)
        · exact f_g0
        · exact f_g0
      · exact f_g0
  · refine oP_ite (fun hb => ?_) (fun hb => ?_)
    · exact f_g0
    · exact f_g0
theorem fn110_o {x : List Int} {g0 : rHp} {G : Int} : fO G g0 (fn110 x g0).2.2 := by
  have f_g0 : fO G g0 g0 := fO_refl
  show oP (fun h => fO G g0 h) (fn110 x g0)
  unfold fn110
  refine oP_let fun g1 e => ?_
  have f_g1 : fO G g0 g1 := by rw [e]; exact fO_2 f_g0 (by decide)
  clear e
  refine oP_let fun g2 e => ?_
  have f_g2 : fO G g0 g2 := by rw [e]; exact fO_2 f_g1 (by decide)
  clear e
  refine oP_let fun g3 e => ?_
  have f_g3 : fO G g0 g3 := by rw [e]; exact fO_2 f_g2 (by decide)
  clear e
  exact f_g3
theorem fn118_o {x : List Int} {g0 : rHp} {G : Int} : fO G g0 (fn118 x g0).2.2 := by
  have f_g0 : fO G g0 g0 := fO_refl
  show oP (fun h => fO G g0 h) (fn118 x g0)
  unfold fn118
  refine oP_dl ?_
  refine oP_dl ?_
  refine oP_dl ?_
  refine oP_dl ?_
  refine oP_ite (fun hb => ?_) (fun hb => ?_)
  · exact f_g0
  · exact f_g0
theorem fn124_o {x : List Int} {g0 : rHp} {G : Int} : fO G g0 (fn124 x g0).2.2 := by
  have f_g0 : fO G g0 g0 := fO_refl
  show oP (fun h => fO G g0 h) (fn124 x g0)
  unfold fn124
  refine oP_dl ?_
  refine oP_dl ?_
  refine oP_dl ?_
  refine oP_dl ?_
  refine oP_ite (fun hb => ?_) (fun hb => ?_)
  · exact f_g0
  · refine oP_ite (fun hb => ?_) (fun hb => ?_)
    · exact f_g0
    · exact f_g0
theorem fn127_o {x : List Int} {g0 : rHp} {G : Int} : fO G g0 (fn127 x g0).2.2 := by
  have f_g0 : fO G g0 g0 := fO_refl
  refine zGoo_P (I := fun s => fO G g0 s.2.2) fO_zero (fun s hs => ?_) ?_
  · unfold en127
    refine oS_ite (fun hb => ?_) (fun hb => ?_)
    · refine oS_let fun g1 e => ?_
      have f_g1 : fO G g0 g1 := by rw [e]; exact hs
      clear e
      refine oS_dl ?_
      refine oS_dl ?_
      refine oS_dl ?_
      refine oS_ite (fun hb => ?_) (fun hb => ?_)
      · exact f_g1
      · refine oS_dl ?_
        refine oS_dl ?_
        refine oS_ite (fun hb => ?_) (fun hb => ?_)
        · exact f_g1
        · exact f_g1
    · exact f_g0
  · unfold dn127
    refine oS_dl ?_
    refine oS_dl ?_
    exact f_g0
theorem fn129_o {x : List Int} {g0 : rHp} {G : Int} : fO G g0 (fn129 x g0).2.2 := by
  have f_g0 : fO G g0 g0 := fO_refl
  show oP (fun h => fO G g0 h) (fn129 x g0)
  unfold fn129
  refine oP_dl ?_
  refine oP_dl ?_
  refine oP_dl ?_
  refine oP_ite (fun hb => ?_) (fun hb => ?_)
  · refine oP_let fun g1 e => ?_
    have f_g1 : fO G g0 g1 := by rw [e]; exact fO_up f_g0 (by decide)
    clear e
    refine oP_let fun g2 e => ?_
    have f_g2 : fO G g0 g2 := by rw [e]; exact fO_cp f_g1 (by decide)
    clear e
    refine oP_let fun g3 e => ?_
    have f_g3 : fO G g0 g3 := by rw [e]; exact fO_1 f_g2 (by decide)
    clear e
    exact f_g3
  · exact f_g0
theorem fn131_o {x : List Int} {g0 : rHp} {G : Int} : fO G g0 (fn131 x g0).2.2 := by
  have f_g0 : fO G g0 g0 := fO_refl
  show oP (fun h => fO G g0 h) (fn131 x g0)
  unfold fn131
  refine oP_dl ?_
  refine oP_dl ?_
  exact f_g0
theorem fn132_o {x : List Int} {g0 : rHp} {G : Int} : fO G g0 (fn132 x g0).2.2 := by
  have f_g0 : fO G g0 g0 := fO_refl
  show oP (fun h => fO G g0 h) (fn132 x g0)
  unfold fn132
  refine oP_dl ?_
  refine oP_dl ?_
  exact f_g0
theorem fn102_o {x : List Int} {g0 : rHp} : fO (qH0 g0) g0 (fn102 x g0).2.2 := by
  have f_g0 : fO (qH0 g0) g0 g0 := fO_refl
  show oP (fun h => fO (qH0 g0) g0 h) (fn102 x g0)
  unfold fn102
  refine oP_dl ?_
  refine oP_dl ?_
  refine oP_dl ?_
  refine oP_dl ?_
  refine oP_let fun g1 e => ?_
  have f_g1 : fO (qH0 g0) g0 g1 := by rw [e]; exact fO_at f_g0 (by decide) rfl
  clear e
  refine oP_let fun g2 e => ?_
  have f_g2 : fO (qH0 g0) g0 g2 := by rw [e]; exact fO_at f_g1 (by decide) rfl
  clear e
  refine oP_let fun g3 e => ?_
  have f_g3 : fO (qH0 g0) g0 g3 := by rw [e]; exact fO_at f_g2 (by decide) rfl
  clear e
  refine oP_let fun g4 e => ?_
  have f_g4 : fO (qH0 g0) g0 g4 := by rw [e]; exact fO_at f_g3 (by decide) rfl
  clear e
  refine oP_let fun g5 e => ?_
  have f_g5 : fO (qH0 g0) g0 g5 := by rw [e]; exact fO_at f_g4 (by decide) rfl
  clear e
  refine oP_let fun g6 e => ?_
  have f_g6 : fO (qH0 g0) g0 g6 := by rw [e]; exact fO_at f_g5 (by decide) rfl
  clear e
  refine oP_let fun g7 e => ?_
  have f_g7 : fO (qH0 g0) g0 g7 := by rw [e]; exact fO_at f_g6 (by decide) rfl
  clear e
  refine oP_let fun p7 e_p7 => ?_
  refine oP_let fun g8 e => ?_
  have f_g8 : fO (qH0 g0) g0 g8 := by rw [e, e_p7]; exact fO_tr f_g7 fn99_o
  clear e
  exact f_g8
theorem fn103_o {x : List Int} {g0 : rHp} : fO (qG g0) g0 (fn103 x g0).2.2 := by
  have f_g0 : fO (qG g0) g0 g0 := fO_refl
  show oP (fun h => fO (qG g0) g0 h) (fn103 x g0)
  unfold fn103
  refine oP_dl ?_
  refine oP_dl ?_
  refine oP_dl ?_
  refine oP_dl ?_
  refine oP_dl ?_
  refine oP_dl ?_
  refine oP_let fun g1 e => ?_
  have f_g1 : fO (qG g0) g0 g1 := by rw [e]; exact fO_at f_g0 (by decide) rfl
  clear e
  refine oP_let fun g2 e => ?_
  have f_g2 : fO (qG g0) g0 g2 := by rw [e]; exact fO_at f_g1 (by decide) rfl
  clear e
  refine oP_let fun g3 e => ?_
  have f_g3 : fO (qG g0) g0 g3 := by rw [e]; exact fO_at f_g2 (by decide) rfl
  clear e
  refine oP_let fun g4 e => ?_
  have f_g4 : fO (qG g0) g0 g4 := by rw [e]; exact fO_at f_g3 (by decide) rfl
  clear e
  refine oP_let fun g5 e => ?_
  have f_g5 : fO (qG g0) g0 g5 := by rw [e]; exact fO_at f_g4 (by decide) rfl
  clear e
  refine oP_let fun g6 e => ?_
  have f_g6 : fO (qG g0) g0 g6 := by rw [e]; exact fO_at f_g5 (by decide) rfl
  clear e
  refine oP_let fun g7 e => ?_
  have f_g7 : fO (qG g0) g0 g7 := by rw [e]; exact fO_at f_g6 (by decide) rfl
  clear e
  refine oP_let fun p7 e_p7 => ?_
  refine oP_let fun g8 e => ?_
  have f_g8 : fO (qG g0) g0 g8 := by rw [e, e_p7]; exact fO_tr f_g7 fn99_o
  clear e
  exact f_g8
theorem fn135_o {x : List Int} {g0 : rHp} : fO (x.getD 0 0) g0 (fn135 x g0).2.2 := by
  have f_g0 : fO (x.getD 0 0) g0 g0 := fO_refl
  show oP (fun h => fO (x.getD 0 0) g0 h) (fn135 x g0)
  unfold fn135
  refine oP_dl ?_
  refine oP_dl ?_
  refine oP_dl ?_
  refine oP_let fun p0 e_p0 => ?_
  refine oP_let fun g1 e => ?_
  have f_g1 : fO (x.getD 0 0) g0 g1 := by rw [e, e_p0]; exact fO_tr f_g0 fn92_o
  clear e
  refine oP_dl ?_
  refine oP_let fun p1 e_p1 => ?_
  refine oP_let fun g2 e => ?_
  have f_g2 : fO (x.getD 0 0) g0 g2 := by rw [e, e_p1]; exact fO_tr f_g1 fn104_o
  clear e
  refine oP_ite (fun hb => ?_) (fun hb => ?_)
  · exact f_g2
  · refine oP_let fun p2 e_p2 => ?_
    refine oP_let fun g3 e => ?_
    have f_g3 : fO (x.getD 0 0) g0 g3 := by rw [e, e_p2]; exact fO_tr f_g2 fn109_o
    clear e
    exact f_g3
theorem fn147_o {x : List Int} {g0 : rHp} {G : Int} : fO G g0 (fn147 x g0).2.2 := by
  have f_g0 : fO G g0 g0 := fO_refl
  refine zGoo_P (I := fun s => fO G g0 s.2.2) fO_zero (fun s hs => ?_) ?_
  · unfold en147
    refine oS_ite (fun hb => ?_) (fun hb => ?_)
    · refine oS_let fun g1 e => ?_
      have f_g1 : fO G g0 g1 := by rw [e]; exact hs
      clear e
      refine oS_dl ?_
      refine oS_dl ?_
      refine oS_dl ?_
      refine oS_ite (fun hb => ?_) (fun hb => ?_)
      · exact f_g1
      · refine oS_dl ?_
        refine oS_ite (fun hb => ?_) (fun hb => ?_)
        · exact f_g1
        · refine oS_dl ?_
          refine oS_let fun p1 e_p1 => ?_
          refine oS_let fun g2 e => ?_
          have f_g2 : fO G g0 g2 := by rw [e, e_p1]; exact fO_tr f_g1 fn109_o
          clear e
          exact f_g2
    · exact f_g0
  · unfold dn147
    refine oS_dl ?_
    exact f_g0
theorem fn152_o {x : List Int} {g0 : rHp} {G : Int} : fO G g0 (fn152 x g0).2.2 := by
  have f_g0 : fO G g0 g0 := fO_refl
  refine zGoo_P (I := fun s => fO G g0 s.2.2) fO_zero (fun s hs => ?_) ?_
  · unfold en152
    refine oS_ite (fun hb => ?_) (fun hb => ?_)
    · refine oS_let fun g1 e => ?_
      have f_g1 : fO G g0 g1 := by rw [e]; exact hs
      clear e
      refine oS_dl ?_
      refine oS_dl ?_
      refine oS_ite (fun hb => ?_) (fun hb => ?_)
      · exact f_g1
      · refine oS_dl ?_
        refine oS_dl ?_
        refine oS_ite (fun hb => ?_) (fun hb => ?_)
        · exact f_g1
        · refine oS_dl ?_
          refine oS_let fun p1 e_p1 => ?_
          refine oS_let fun g2 e => ?_
          have f_g2 : fO G g0 g2 := by rw [e, e_p1]; exact fO_tr f_g1 fn109_o
          clear e
          exact f_g2
    · exact f_g0
  · unfold dn152
    exact f_g0
theorem fn116_o {x : List Int} {g0 : rHp} {G : Int} : fO G g0 (fn116 x g0).2.2 := by
  have f_g0 : fO G g0 g0 := fO_refl
  refine zGoo_P (I := fun s => fO G g0 s.2.2) fO_zero (fun s hs => ?_) ?_
  · unfold en116
    refine oS_ite (fun hb => ?_) (fun hb => ?_)
    · refine oS_let fun g1 e => ?_
      have f_g1 : fO G g0 g1 := by rw [e]; exact hs
      clear e
      refine oS_dl ?_
      refine oS_dl ?_
      refine oS_dl ?_
      refine oS_dl ?_
      refine oS_dl ?_
      refine oS_ite (fun hb => ?_) (fun hb => ?_)
      · refine oS_ite (fun hb => ?_) (fun hb => ?_)
        · refine oS_let fun p1 e_p1 => ?_
          refine oS_let fun g2 e => ?_
          have f_g2 : fO G g0 g2 := by rw [e, e_p1]; exact fO_tr f_g1 fn109_o
          clear e
          exact f_g2
        · refine oS_ite (fun hb => ?_) (fun hb => ?_)
          · refine oS_ite (fun hb => ?_) (fun hb => ?_)
            · refine oS_dl ?_
              refine oS_let fun g2 e => ?_
              have f_g2 : fO G g0 g2 := by rw [e]; exact fO_2 f_g1 (by decide)
              clear e
              exact f_g2
            · refine oS_dl ?_
              refine oS_dl ?_
              refine oS_let fun g2 e => ?_
              have f_g2 : fO G g0 g2 := by rw [e]; exact fO_2 f_g1 (by decide)
              clear e
              exact f_g2
          · refine oS_let fun p1 e_p1 => ?_
            refine oS_let fun g2 e => ?_
            have f_g2 : fO G g0 g2 := by rw [e, e_p1]; exact fO_tr f_g1 fn109_o
            clear e
            exact f_g2
      · refine oS_dl ?_
        refine oS_let fun p1 e_p1 => ?_
        refine oS_let fun g2 e => ?_
        have f_g2 : fO G g0 g2 := by rw [e, e_p1]; exact fO_tr f_g1 fn107_o
        clear e
        refine oS_ite (fun hb => ?_) (fun hb => ?_)
        · refine oS_dl ?_
          refine oS_dl ?_
          refine oS_dl ?_
          refine oS_let fun g3 e => ?_
          have f_g3 : fO G g0 g3 := by rw [e]; exact fO_2 f_g2 (by decide)
          clear e
          refine oS_let fun g4 e => ?_
          have f_g4 : fO G g0 g4 := by rw [e]; exact fO_2 f_g3 (by decide)
          clear e
          exact f_g4
        · refine oS_ite (fun hb => ?_) (fun hb => ?_)
          · refine oS_let fun p2 e_p2 => ?_
            refine oS_let fun g3 e => ?_
            have f_g3 : fO G g0 g3 := by rw [e, e_p2]; exact fO_tr f_g2 fn109_o
            clear e
            exact f_g3
          · refine oS_ite (fun hb => ?_) (fun hb => ?_)
            · refine oS_ite (fun hb => ?_) (fun hb => ?_)
              · refine oS_dl ?_
                refine oS_let fun g3 e => ?_
                have f_g3 : fO G g0 g3 := by rw [e]; exact fO_2 f_g2 (by decide)
                clear e
                exact f_g3
              · refine oS_dl ?_
                refine oS_dl ?_
                refine oS_let fun g3 e => ?_
                have f_g3 : fO G g0 g3 := by rw [e]; exact fO_2 f_g2 (by decide)
                clear e
                exact f_g3
            · refine oS_let fun p2 e_p2 => ?_
              refine oS_let fun g3 e => ?_
              have f_g3 : fO G g0 g3 := by rw [e, e_p2]; exact fO_tr f_g2 fn109_o
              clear e
              exact f_g3
    · exact f_g0
  · unfold dn116
    refine oS_dl ?_
    refine oS_dl ?_
    refine oS_ite (fun hb => ?_) (fun hb => ?_)
    · refine oS_let fun g1 e => ?_
      have f_g1 : fO G g0 g1 := by rw [e]; exact fO_2 f_g0 (by decide)
      clear e
      exact f_g1
    · refine oS_dl ?_
      refine oS_ite (fun hb => ?_) (fun hb => ?_)
      · refine oS_let fun g1 e => ?_
        have f_g1 : fO G g0 g1 := by rw [e]; exact fO_2 f_g0 (by decide)
        clear e
        exact f_g1
      · refine oS_let fun g1 e => ?_
        have f_g1 : fO G g0 g1 := by rw [e]; exact fO_2 f_g0 (by decide)
        clear e
        refine oS_let fun g2 e => ?_
        have f_g2 : fO G g0 g2 := by rw [e]; exact fO_2 f_g1 (by decide)
        clear e
        exact f_g2
theorem fn154_o {x : List Int} {g0 : rHp} : fO (qG g0) g0 (fn154 x g0).2.2 := by
  have f_g0 : fO (qG g0) g0 g0 := fO_refl
  show oP (fun h => fO (qG g0) g0 h) (fn154 x g0)
  unfold fn154
  refine oP_dl ?_
  refine oP_dl ?_
  refine oP_dl ?_
  refine oP_dl ?_
  refine oP_let fun p0 e_p0 => ?_
  refine oP_let fun g1 e => ?_
  have f_g1 : fO (qG g0) g0 g1 := by rw [e, e_p0]; exact fO_tr f_g0 fn114_o
  clear e
  refine oP_ite (fun hb => ?_) (fun hb => ?_)
  · refine oP_dl ?_
    refine oP_dl ?_
    refine oP_ite (fun hb => ?_) (fun hb => ?_)
    · refine oP_let fun g2 e => ?_
      have f_g2 : fO (qG g0) g0 g2 := by rw [e]; exact fO_at f_g1 (by decide) rfl
      clear e
      refine oP_let fun g3 e => ?_
      have f_g3 : fO (qG g0) g0 g3 := by rw [e]; exact fO_2 f_g2 (by decide)
      clear e
      refine oP_ite (fun hb => ?_) (fun hb => ?_)
      · exact f_g3
      · refine oP_dl ?_
        refine oP_ite (fun hb => ?_) (fun hb => ?_)
        · exact f_g3
        · refine oP_let fun g4 e => ?_
          have f_g4 : fO (qG g0) g0 g4 := by rw [e]; exact fO_at f_g3 (by decide) rfl
          clear e
          refine oP_let fun g5 e => ?_
          have f_g5 : fO (qG g0) g0 g5 := by rw [e]; exact fO_2 f_g4 (by decide)
          clear e
          exact f_g5
    · refine oP_ite (fun hb => ?_) (fun hb => ?_)
      · refine oP_let fun g2 e => ?_
        have f_g2 : fO (qG g0) g0 g2 := by rw [e]; exact fO_at f_g1 (by decide) rfl
        clear e
        refine oP_let fun g3 e => ?_
        have f_g3 : fO (qG g0) g0 g3 := by rw [e]; exact fO_2 f_g2 (by decide)
        clear e
        exact f_g3
      · refine oP_let fun p1 e_p1 => ?_
        refine oP_let fun g2 e => ?_
        have f_g2 : fO (qG g0) g0 g2 := by rw [e, e_p1]; exact fO_tr f_g1 fn109_o
        clear e
        exact f_g2
  · refine oP_dl ?_
    refine oP_let fun p1 e_p1 => ?_
    refine oP_let fun g2 e => ?_
    have f_g2 : fO (qG g0) g0 g2 := by rw [e, e_p1]; exact fO_tr f_g1 fn109_o
    clear e
    exact f_g2
theorem fn149_o {x : List Int} {g0 : rHp} {G : Int} : fO G g0 (fn149 x g0).2.2 := by
  have f_g0 : fO G g0 g0 := fO_refl
  show oP (fun h => fO G g0 h) (fn149 x g0)
  unfold fn149
  refine oP_let fun p0 e_p0 => ?_
  refine oP_let fun g1 e => ?_
  have f_g1 : fO G g0 g1 := by rw [e, e_p0]; exact fO_tr f_g0 fn114_o
  clear e
  refine oP_ite (fun hb => ?_) (fun hb => ?_)
  · refine oP_dl ?_
    refine oP_let fun p1 e_p1 => ?_
    refine oP_let fun g2 e => ?_
    have f_g2 : fO G g0 g2 := by rw [e, e_p1]; exact fO_tr f_g1 fn109_o
    clear e
    exact f_g2
  · exact f_g1
theorem fn151_o {x : List Int} {g0 : rHp} {G : Int} : fO G g0 (fn151 x g0).2.2 := by
  have f_g0 : fO G g0 g0 := fO_refl
  show oP (fun h => fO G g0 h) (fn151 x g0)
  unfold fn151
  refine oP_dl ?_
  refine oP_dl ?_
  refine oP_dl ?_
  refine oP_dl ?_
  refine oP_let fun p0 e_p0 => ?_
  refine oP_let fun g1 e => ?_
  have f_g1 : fO G g0 g1 := by rw [e, e_p0]; exact fO_tr f_g0 fn114_o
  clear e
  refine oP_ite (fun hb => ?_) (fun hb => ?_)
  · refine oP_dl ?_
    refine oP_dl ?_
    refine oP_ite (fun hb => ?_) (fun hb => ?_)
    · refine oP_let fun g2 e => ?_
      have f_g2 : fO G g0 g2 := by rw [e]; exact fO_2 f_g1 (by decide)
      clear e
      refine oP_ite (fun hb => ?_) (fun hb => ?_)
      · refine oP_let fun p2 e_p2 => ?_
        refine oP_let fun g3 e => ?_
        have f_g3 : fO G g0 g3 := by rw [e, e_p2]; exact fO_tr f_g2 fn109_o
        clear e
        exact f_g3
      · refine oP_dl ?_
        refine oP_ite (fun hb => ?_) (fun hb => ?_)
        · refine oP_let fun g3 e => ?_
          have f_g3 : fO G g0 g3 := by rw [e]; exact fO_2 f_g2 (by decide)
          clear e
          refine oP_ite (fun hb => ?_) (fun hb => ?_)
          · exact f_g3
          · refine oP_let fun p3 e_p3 => ?_
            refine oP_let fun g4 e => ?_
            have f_g4 : fO G g0 g4 := by rw [e, e_p3]; exact fO_tr f_g3 fn109_o
            clear e
            exact f_g4
        · refine oP_let fun p2 e_p2 => ?_
          refine oP_let fun g3 e => ?_
          have f_g3 : fO G g0 g3 := by rw [e, e_p2]; exact fO_tr f_g2 fn109_o
          clear e
          exact f_g3
    · refine oP_let fun p1 e_p1 => ?_
      refine oP_let fun g2 e => ?_
      have f_g2 : fO G g0 g2 := by rw [e, e_p1]; exact fO_tr f_g1 fn109_o
      clear e
      exact f_g2
  · refine oP_dl ?_
    refine oP_let fun p1 e_p1 => ?_
    refine oP_let fun g2 e => ?_
    have f_g2 : fO G g0 g2 := by rw [e, e_p1]; exact fO_tr f_g1 fn109_o
    clear e
    exact f_g2
theorem fn138_o {x : List Int} {g0 : rHp} : fO (x.getD 0 0) g0 (fn138 x g0).2.2 := by
  have f_g0 : fO (x.getD 0 0) g0 g0 := fO_refl
  show oP (fun h => fO (x.getD 0 0) g0 h) (fn138 x g0)
  unfold fn138
  refine oP_dl ?_
  refine oP_dl ?_
  refine oP_dl ?_
  refine oP_let fun p0 e_p0 => ?_
  refine oP_let fun g1 e => ?_
  have f_g1 : fO (x.getD 0 0) g0 g1 := by rw [e, e_p0]; exact fO_tr f_g0 fn119_o
  clear e
  refine oP_dl ?_
  refine oP_ite (fun hb => ?_) (fun hb => ?_)
  · refine oP_let fun p1 e_p1 => ?_
    refine oP_let fun g2 e => ?_
    have f_g2 : fO (x.getD 0 0) g0 g2 := by rw [e, e_p1]; exact fO_tr f_g1 fn109_o
    clear e
    exact f_g2
  · refine oP_let fun p1 e_p1 => ?_
    refine oP_let fun g2 e => ?_
    have f_g2 : fO (x.getD 0 0) g0 g2 := by rw [e, e_p1]; exact fO_tr f_g1 fn117_o
    clear e
    refine oP_ite (fun hb => ?_) (fun hb => ?_)
    · refine oP_dl ?_
      refine oP_dl ?_
      refine oP_let fun g3 e => ?_
      have f_g3 : fO (x.getD 0 0) g0 g3 := by rw [e]; exact fO_up f_g2 (by decide)
      clear e
      refine oP_let fun p3 e_p3 => ?_
      refine oP_let fun g4 e => ?_
      have f_g4 : fO (x.getD 0 0) g0 g4 := by rw [e, e_p3]; exact fO_tr f_g3 fn104_o
      clear e
      exact f_g4
    · refine oP_let fun p2 e_p2 => ?_
      refine oP_let fun g3 e => ?_
      have f_g3 : fO (x.getD 0 0) g0 g3 := by rw [e, e_p2]; exact fO_tr f_g2 fn109_o
      clear e
      exact f_g3
theorem fn120_o {x : List Int} {g0 : rHp} {G : Int} : fO G g0 (fn120 x g0).2.2 := by
  have f_g0 : fO G g0 g0 := fO_refl
  show oP (fun h => fO G g0 h) (fn120 x g0)
  unfold fn120
  refine oP_dl ?_
  refine oP_dl ?_
  refine oP_let fun p0 e_p0 => ?_
  refine oP_let fun g1 e => ?_
  have f_g1 : fO G g0 g1 := by rw [e, e_p0]; exact fO_tr f_g0 fn119_o
  clear e
  refine oP_dl ?_
  refine oP_ite (fun hb => ?_) (fun hb => ?_)
  · refine oP_ite (fun hb => ?_) (fun hb => ?_)
    · refine oP_let fun g2 e => ?_
      have f_g2 : fO G g0 g2 := by rw [e]; exact fO_up f_g1 (by decide)
      clear e
      refine oP_let fun g3 e => ?_
      have f_g3 : fO G g0 g3 := by rw [e]; exact fO_up f_g2 (by decide)
      clear e
      refine oP_let fun g4 e => ?_
      have f_g4 : fO G g0 g4 := by rw [e]; exact fO_2 f_g3 (by decide)
      clear e
      exact f_g4
    · exact f_g1
  · refine oP_dl ?_
    refine oP_dl ?_
    refine oP_let fun g2 e => ?_
    have f_g2 : fO G g0 g2 := by rw [e]; exact fO_up f_g1 (by decide)
    clear e
    exact f_g2
theorem fn133_o {x : List Int} {g0 : rHp} : fO (qH0 g0) g0 (fn133 x g0).2.2 := by
  have f_g0 : fO (qH0 g0) g0 g0 := fO_refl
  show oP (fun h => fO (qH0 g0) g0 h) (fn133 x g0)
  unfold fn133
  refine oP_dl ?_
  refine oP_dl ?_
  refine oP_dl ?_
  refine oP_dl ?_
  refine oP_dl ?_
  refine oP_dl ?_
  refine oP_let fun p0 e_p0 => ?_
  refine oP_let fun g1 e => ?_
  have f_g1 : fO (qH0 g0) g0 g1 := by rw [e, e_p0]; exact fO_tr f_g0 fn125_o
  clear e
  refine oP_dl ?_
  refine oP_let fun g2 e => ?_
  have f_g2 : fO (qH0 g0) g0 g2 := by rw [e]; exact fO_at f_g1 (by decide) rfl
  clear e
  refine oP_ite (fun hb => ?_) (fun hb => ?_)
  · exact f_g2
  · refine oP_ite (fun hb => ?_) (fun hb => ?_)
    · refine oP_ite (fun hb => ?_) (fun hb => ?_)
      · exact f_g2
      · refine oP_let fun p2 e_p2 => ?_
        refine oP_let fun g3 e => ?_
        have f_g3 : fO (qH0 g0) g0 g3 := by rw [e, e_p2]; exact fO_tr f_g2 fn109_o
        clear e
        exact f_g3
    · refine oP_let fun p2 e_p2 => ?_
      refine oP_let fun g3 e => ?_
      have f_g3 : fO (qH0 g0) g0 g3 := by rw [e, e_p2]; exact fO_tr f_g2 fn126_o
      clear e
      refine oP_dl ?_
      refine oP_let fun g4 e => ?_
      have f_g4 : fO (qH0 g0) g0 g4 := by rw [e]; exact fO_at f_g3 (by decide) rfl
      clear e
      refine oP_ite (fun hb => ?_) (fun hb => ?_)
      · exact f_g4
      · refine oP_let fun p4 e_p4 => ?_
        refine oP_let fun g5 e => ?_
        have f_g5 : fO (qH0 g0) g0 g5 := by rw [e, e_p4]; exact fO_tr f_g4 fn109_o
        clear e
        exact f_g5
theorem fn134_o {x : List Int} {g0 : rHp} : fO (qG g0) g0 (fn134 x g0).2.2 := by
  have f_g0 : fO (qG g0) g0 g0 := fO_refl
  show oP (fun h => fO (qG g0) g0 h) (fn134 x g0)
  unfold fn134
  refine oP_dl ?_
  refine oP_dl ?_
  refine oP_dl ?_
  refine oP_dl ?_
  refine oP_dl ?_
  refine oP_dl ?_
  refine oP_dl ?_
  refine oP_let fun p0 e_p0 => ?_
  refine oP_let fun g1 e => ?_
  have f_g1 : fO (qG g0) g0 g1 := by rw [e, e_p0]; exact fO_tr f_g0 fn125_o
  clear e
  refine oP_dl ?_
  refine oP_let fun g2 e => ?_
  have f_g2 : fO (qG g0) g0 g2 := by rw [e]; exact fO_at f_g1 (by decide) rfl
  clear e
  refine oP_ite (fun hb => ?_) (fun hb => ?_)
  · exact f_g2
  · refine oP_ite (fun hb => ?_) (fun hb => ?_)
    · refine oP_ite (fun hb => ?_) (fun hb => ?_)
      · exact f_g2
      · refine oP_let fun p2 e_p2 => ?_
        refine oP_let fun g3 e => ?_
        have f_g3 : fO (qG g0) g0 g3 := by rw [e, e_p2]; exact fO_tr f_g2 fn109_o
        clear e
        exact f_g3
    · refine oP_let fun p2 e_p2 => ?_
      refine oP_let fun g3 e => ?_
      have f_g3 : fO (qG g0) g0 g3 := by rw [e, e_p2]; exact fO_tr f_g2 fn126_o
      clear e
      refine oP_dl ?_
      refine oP_let fun g4 e => ?_
      have f_g4 : fO (qG g0) g0 g4 := by rw [e]; exact fO_at f_g3 (by decide) rfl
      clear e
      refine oP_ite (fun hb => ?_) (fun hb => ?_)
      · exact f_g4
      · refine oP_let fun p4 e_p4 => ?_
        refine oP_let fun g5 e => ?_
        have f_g5 : fO (qG g0) g0 g5 := by rw [e, e_p4]; exact fO_tr f_g4 fn109_o
        clear e
        exact f_g5
theorem fn115_o {x : List Int} {g0 : rHp} {G : Int} : fO G g0 (fn115 x g0).2.2 := by
  have f_g0 : fO G g0 g0 := fO_refl
  refine zGoo_P (I := fun s => fO G g0 s.2.2) fO_zero (fun s hs => ?_) ?_
  · unfold en115
    refine oS_ite (fun hb => ?_) (fun hb => ?_)
    · refine oS_let fun g1 e => ?_
      have f_g1 : fO G g0 g1 := by rw [e]; exact hs
      clear e
      refine oS_dl ?_
      refine oS_dl ?_
      refine oS_dl ?_
      refine oS_dl ?_
      refine oS_ite (fun hb => ?_) (fun hb => ?_)
      · refine oS_ite (fun hb => ?_) (fun hb => ?_)
        · exact f_g1
        · refine oS_let fun p1 e_p1 => ?_
          refine oS_let fun g2 e => ?_
          have f_g2 : fO G g0 g2 := by rw [e, e_p1]; exact fO_tr f_g1 fn109_o
          clear e
          exact f_g2
      · refine oS_ite (fun hb => ?_) (fun hb => ?_)
        · refine oS_ite (fun hb => ?_) (fun hb => ?_)
          · exact f_g1
          · refine oS_let fun p1 e_p1 => ?_
            refine oS_let fun g2 e => ?_
            have f_g2 : fO G g0 g2 := by rw [e, e_p1]; exact fO_tr f_g1 fn109_o
            clear e
            exact f_g2
        · refine oS_dl ?_
          refine oS_dl ?_
          refine oS_dl ?_
          refine oS_let fun g2 e => ?_
          have f_g2 : fO G g0 g2 := by rw [e]; exact fO_2 f_g1 (by decide)
          clear e
          refine oS_let fun g3 e => ?_
          have f_g3 : fO G g0 g3 := by rw [e]; exact fO_2 f_g2 (by decide)
          clear e
          refine oS_ite (fun hb => ?_) (fun hb => ?_)
          · exact f_g3
          · refine oS_dl ?_
            refine oS_let fun p3 e_p3 => ?_
            refine oS_let fun g4 e => ?_
            have f_g4 : fO G g0 g4 := by rw [e, e_p3]; exact fO_tr f_g3 fn108_o
            clear e
            refine oS_dl ?_
            exact f_g4
    · exact f_g0
  · unfold dn115
    refine oS_dl ?_
    refine oS_dl ?_
    refine oS_let fun g1 e => ?_
    have f_g1 : fO G g0 g1 := by rw [e]; exact fO_2 f_g0 (by decide)
    clear e
    refine oS_dl ?_
    refine oS_dl ?_
    refine oS_let fun g2 e => ?_
    have f_g2 : fO G g0 g2 := by rw [e]; exact fO_2 f_g1 (by decide)
    clear e
    refine oS_let fun g3 e => ?_
    have f_g3 : fO G g0 g3 := by rw [e]; exact fO_2 f_g2 (by decide)
    clear e
    refine oS_ite (fun hb => ?_) (fun hb => ?_)
    · exact f_g3
    · refine oS_dl ?_
      refine oS_let fun p3 e_p3 => ?_
      refine oS_let fun g4 e => ?_
      have f_g4 : fO G g0 g4 := by rw [e, e_p3]; exact fO_tr f_g3 fn108_o
      clear e
      refine oS_dl ?_
      exact f_g4
theorem fn153_o {x : List Int} {g0 : rHp} {G : Int} : fO G g0 (fn153 x g0).2.2 := by
  have f_g0 : fO G g0 g0 := fO_refl
  refine zGoo_P (I := fun s => fO G g0 s.2.2) fO_zero (fun s hs => ?_) ?_
  · unfold en153
    refine oS_ite (fun hb => ?_) (fun hb => ?_)
    · refine oS_let fun g1 e => ?_
      have f_g1 : fO G g0 g1 := by rw [e]; exact hs
      clear e
      refine oS_dl ?_
      refine oS_dl ?_
      refine oS_dl ?_
      refine oS_dl ?_
      refine oS_dl ?_
      refine oS_dl ?_
      refine oS_ite (fun hb => ?_) (fun hb => ?_)
      · exact f_g1
      · refine oS_dl ?_
        refine oS_ite (fun hb => ?_) (fun hb => ?_)
        · refine oS_ite (fun hb => ?_) (fun hb => ?_)
          · exact f_g1
          · refine oS_ite (fun hb => ?_) (fun hb => ?_)
            · exact f_g1
            · refine oS_let fun p1 e_p1 => ?_
              refine oS_let fun g2 e => ?_
              have f_g2 : fO G g0 g2 := by rw [e, e_p1]; exact fO_tr f_g1 fn118_o
              clear e
              refine oS_ite (fun hb => ?_) (fun hb => ?_)
              · exact f_g2
              · refine oS_let fun p2 e_p2 => ?_
                refine oS_let fun g3 e => ?_
                have f_g3 : fO G g0 g3 := by rw [e, e_p2]; exact fO_tr f_g2 fn109_o
                clear e
                exact f_g3
        · refine oS_dl ?_
          refine oS_let fun p1 e_p1 => ?_
          refine oS_let fun g2 e => ?_
          have f_g2 : fO G g0 g2 := by rw [e, e_p1]; exact fO_tr f_g1 fn117_o
          clear e
          refine oS_ite (fun hb => ?_) (fun hb => ?_)
          · exact f_g2
          · refine oS_dl ?_
            refine oS_let fun p2 e_p2 => ?_
            refine oS_let fun g3 e => ?_
            have f_g3 : fO G g0 g3 := by rw [e, e_p2]; exact fO_tr f_g2 fn109_o
            clear e
            exact f_g3
    · exact f_g0
  · unfold dn153
    refine oS_dl ?_
    exact f_g0
theorem fn128_o {x : List Int} {g0 : rHp} {G : Int} : fO G g0 (fn128 x g0).2.2 := by
  have f_g0 : fO G g0 g0 := fO_refl
  refine zGoo_P (I := fun s => fO G g0 s.2.2) fO_zero (fun s hs => ?_) ?_
  · unfold en128
    refine oS_ite (fun hb => ?_) (fun hb => ?_)
    · refine oS_let fun g1 e => ?_
      have f_g1 : fO G g0 g1 := by rw [e]; exact hs
      clear e
      refine oS_dl ?_
      refine oS_dl ?_
      refine oS_dl ?_
      refine oS_dl ?_
      refine oS_ite (fun hb => ?_) (fun hb => ?_)
      · exact f_g1
      · refine oS_dl ?_
        refine oS_ite (fun hb => ?_) (fun hb => ?_)
        · exact f_g1
        · refine oS_let fun p1 e_p1 => ?_
          refine oS_let fun g2 e => ?_
          have f_g2 : fO G g0 g2 := by rw [e, e_p1]; exact fO_tr f_g1 fn127_o
          clear e
          refine oS_ite (fun hb => ?_) (fun hb => ?_)
          · exact f_g2
          · exact f_g2
    · exact f_g0
  · unfold dn128
    refine oS_dl ?_
    exact f_g0
theorem fn148_o {x : List Int} {g0 : rHp} {G : Int} : fO G g0 (fn148 x g0).2.2 := by
  have f_g0 : fO G g0 g0 := fO_refl
  show oP (fun h => fO G g0 h) (fn148 x g0)
  unfold fn148
  refine oP_dl ?_
  refine oP_let fun p0 e_p0 => ?_
  refine oP_let fun g1 e => ?_
  have f_g1 : fO G g0 g1 := by rw [e, e_p0]; exact fO_tr f_g0 fn114_o
  clear e
  refine oP_ite (fun hb => ?_) (fun hb => ?_)
  · refine oP_dl ?_
    refine oP_dl ?_
    refine oP_ite (fun hb => ?_) (fun hb => ?_)
    · refine oP_let fun g2 e => ?_
      have f_g2 : fO G g0 g2 := by rw [e]; exact fO_2 f_g1 (by decide)
      clear e
      refine oP_let fun p2 e_p2 => ?_
      refine oP_let fun g3 e => ?_
      have f_g3 : fO G g0 g3 := by rw [e, e_p2]; exact fO_tr f_g2 fn147_o
      clear e
      refine oP_ite (fun hb => ?_) (fun hb => ?_)
      · exact f_g3
      · exact f_g3
    · refine oP_let fun p1 e_p1 => ?_
      refine oP_let fun g2 e => ?_
      have f_g2 : fO G g0 g2 := by rw [e, e_p1]; exact fO_tr f_g1 fn109_o
      clear e
      exact f_g2
  · refine oP_dl ?_
    refine oP_let fun p1 e_p1 => ?_
    refine oP_let fun g2 e => ?_
    have f_g2 : fO G g0 g2 := by rw [e, e_p1]; exact fO_tr f_g1 fn109_o
    clear e
    exact f_g2
theorem fn137_o {x : List Int} {g0 : rHp} : fO (x.getD 0 0) g0 (fn137 x g0).2.2 := by
  have f_g0 : fO (x.getD 0 0) g0 g0 := fO_refl
  show oP (fun h => fO (x.getD 0 0) g0 h) (fn137 x g0)
  unfold fn137
  refine oP_dl ?_
  refine oP_dl ?_
  refine oP_dl ?_
  refine oP_dl ?_
  refine oP_dl ?_
  refine oP_let fun p0 e_p0 => ?_
  refine oP_let fun g1 e => ?_
  have f_g1 : fO (x.getD 0 0) g0 g1 := by rw [e, e_p0]; exact fO_tr f_g0 fn120_o
  clear e
  refine oP_dl ?_
  refine oP_ite (fun hb => ?_) (fun hb => ?_)
  · refine oP_ite (fun hb => ?_) (fun hb => ?_)
    · refine oP_let fun p1 e_p1 => ?_
      refine oP_let fun g2 e => ?_
      have f_g2 : fO (x.getD 0 0) g0 g2 := by rw [e, e_p1]; exact fO_tr f_g1 fn104_o
      clear e
      exact f_g2
    · refine oP_let fun p1 e_p1 => ?_
      refine oP_let fun g2 e => ?_
      have f_g2 : fO (x.getD 0 0) g0 g2 := by rw [e, e_p1]; exact fO_tr f_g1 fn117_o
      clear e
      refine oP_ite (fun hb => ?_) (fun hb => ?_)
      · refine oP_let fun p2 e_p2 => ?_
        refine oP_let fun g3 e => ?_
        have f_g3 : fO (x.getD 0 0) g0 g3 := by rw [e, e_p2]; exact fO_tr f_g2 fn104_o
        clear e
        exact f_g3
      · refine oP_ite (fun hb => ?_) (fun hb => ?_)
        · refine oP_let fun p2 e_p2 => ?_
          refine oP_let fun g3 e => ?_
          have f_g3 : fO (x.getD 0 0) g0 g3 := by rw [e, e_p2]; exact fO_tr f_g2 fn104_o
          clear e
          refine oP_let fun p3 e_p3 => ?_
          refine oP_let fun g4 e => ?_
          have f_g4 : fO (x.getD 0 0) g0 g4 := by rw [e, e_p3]; exact fO_tr f_g3 fn121_o
          clear e
          exact f_g4
        · refine oP_let fun p2 e_p2 => ?_
          refine oP_let fun g3 e => ?_
          have f_g3 : fO (x.getD 0 0) g0 g3 := by rw [e, e_p2]; exact fO_tr f_g2 fn104_o
          clear e
          refine oP_dl ?_
          refine oP_dl ?_
          refine oP_let fun g4 e => ?_
          have f_g4 : fO (x.getD 0 0) g0 g4 := by rw [e]; exact fO_2 f_g3 (by decide)
          clear e
          exact f_g4
  · refine oP_let fun p1 e_p1 => ?_
    refine oP_let fun g2 e => ?_
    have f_g2 : fO (x.getD 0 0) g0 g2 := by rw [e, e_p1]; exact fO_tr f_g1 fn109_o
    clear e
    exact f_g2
theorem fn136_o {x : List Int} {g0 : rHp} : fO (x.getD 0 0) g0 (fn136 x g0).2.2 := by
  have f_g0 : fO (x.getD 0 0) g0 g0 := fO_refl
  show oP (fun h => fO (x.getD 0 0) g0 h) (fn136 x g0)
  unfold fn136
  refine oP_dl ?_
  refine oP_let fun p0 e_p0 => ?_
  refine oP_let fun g1 e => ?_
  have f_g1 : fO (x.getD 0 0) g0 g1 := by rw [e, e_p0]; exact fO_tr f_g0 fn114_o
  clear e
  refine oP_ite (fun hb => ?_) (fun hb => ?_)
  · refine oP_dl ?_
    refine oP_dl ?_
    refine oP_let fun p1 e_p1 => ?_
    refine oP_let fun g2 e => ?_
    have f_g2 : fO (x.getD 0 0) g0 g2 := by rw [e, e_p1]; exact fO_tr f_g1 fn105_o
    clear e
    refine oP_ite (fun hb => ?_) (fun hb => ?_)
    · refine oP_let fun p2 e_p2 => ?_
      refine oP_let fun g3 e => ?_
      have f_g3 : fO (x.getD 0 0) g0 g3 := by rw [e, e_p2]; exact fO_tr f_g2 fn115_o
      clear e
      refine oP_ite (fun hb => ?_) (fun hb => ?_)
      · refine oP_dl ?_
        refine oP_let fun p3 e_p3 => ?_
        refine oP_let fun g4 e => ?_
        have f_g4 : fO (x.getD 0 0) g0 g4 := by rw [e, e_p3]; exact fO_tr f_g3 fn135_o
        clear e
        refine oP_ite (fun hb => ?_) (fun hb => ?_)
        · exact f_g4
        · exact f_g4
      · exact f_g3
    · refine oP_let fun p2 e_p2 => ?_
      refine oP_let fun g3 e => ?_
      have f_g3 : fO (x.getD 0 0) g0 g3 := by rw [e, e_p2]; exact fO_tr f_g2 fn107_o
      clear e
      refine oP_ite (fun hb => ?_) (fun hb => ?_)
      · refine oP_let fun p3 e_p3 => ?_
        refine oP_let fun g4 e => ?_
        have f_g4 : fO (x.getD 0 0) g0 g4 := by rw [e, e_p3]; exact fO_tr f_g3 fn116_o
        clear e
        refine oP_ite (fun hb => ?_) (fun hb => ?_)
        · refine oP_dl ?_
          refine oP_let fun p4 e_p4 => ?_
          refine oP_let fun g5 e => ?_
          have f_g5 : fO (x.getD 0 0) g0 g5 := by rw [e, e_p4]; exact fO_tr f_g4 fn104_o
          clear e
          exact f_g5
        · exact f_g4
      · refine oP_ite (fun hb => ?_) (fun hb => ?_)
        · refine oP_let fun p3 e_p3 => ?_
          refine oP_let fun g4 e => ?_
          have f_g4 : fO (x.getD 0 0) g0 g4 := by rw [e, e_p3]; exact fO_tr f_g3 fn116_o
          clear e
          refine oP_ite (fun hb => ?_) (fun hb => ?_)
          · refine oP_dl ?_
            refine oP_let fun p4 e_p4 => ?_
            refine oP_let fun g5 e => ?_
            have f_g5 : fO (x.getD 0 0) g0 g5 := by rw [e, e_p4]; exact fO_tr f_g4 fn104_o
            clear e
            exact f_g5
          · exact f_g4
        · refine oP_let fun p3 e_p3 => ?_
          refine oP_let fun g4 e => ?_
          have f_g4 : fO (x.getD 0 0) g0 g4 := by rw [e, e_p3]; exact fO_tr f_g3 fn109_o
          clear e
          exact f_g4
  · refine oP_dl ?_
    refine oP_let fun p1 e_p1 => ?_
    refine oP_let fun g2 e => ?_
    have f_g2 : fO (x.getD 0 0) g0 g2 := by rw [e, e_p1]; exact fO_tr f_g1 fn105_o
    clear e
    refine oP_let fun p2 e_p2 => ?_
    refine oP_let fun g3 e => ?_
    have f_g3 : fO (x.getD 0 0) g0 g3 := by rw [e, e_p2]; exact fO_tr f_g2 fn107_o
    clear e
    refine oP_let fun p3 e_p3 => ?_
    refine oP_let fun g4 e => ?_
    have f_g4 : fO (x.getD 0 0) g0 g4 := by rw [e, e_p3]; exact fO_tr f_g3 fn109_o
    clear e
    exact f_g4
theorem fn140_o {x : List Int} {g0 : rHp} : fO (qH0 g0) g0 (fn140 x g0).2.2 := by
  have f_g0 : fO (qH0 g0) g0 g0 := fO_refl
  show oP (fun h => fO (qH0 g0) g0 h) (fn140 x g0)
  unfold fn140
  refine oP_dl ?_
  refine oP_dl ?_
  refine oP_dl ?_
  refine oP_dl ?_
  refine oP_dl ?_
  refine oP_ite (fun hb => ?_) (fun hb => ?_)
  · refine oP_let fun g1 e => ?_
    have f_g1 : fO (qH0 g0) g0 g1 := by rw [e]; exact fO_at f_g0 (by decide) rfl
    clear e
    refine oP_let fun p1 e_p1 => ?_
    refine oP_let fun g2 e => ?_
    have f_g2 : fO (qH0 g0) g0 g2 := by rw [e, e_p1]; exact fO_tr f_g1 fn104_o
    clear e
    refine oP_let fun g3 e => ?_
    have f_g3 : fO (qH0 g0) g0 g3 := by rw [e]; exact fO_2 f_g2 (by decide)
    clear e
    refine oP_let fun p3 e_p3 => ?_
    refine oP_let fun g4 e => ?_
    have f_g4 : fO (qH0 g0) g0 g4 := by rw [e, e_p3]; exact fO_tr f_g3 fn114_o
    clear e
    refine oP_ite (fun hb => ?_) (fun hb => ?_)
    · refine oP_dl ?_
      refine oP_dl ?_
      refine oP_let fun p4 e_p4 => ?_
      refine oP_let fun g5 e => ?_
      have f_g5 : fO (qH0 g0) g0 g5 := by rw [e, e_p4]; exact fO_tr f_g4 fn105_o
      clear e
      refine oP_ite (fun hb => ?_) (fun hb => ?_)
      · refine oP_let fun p5 e_p5 => ?_
        refine oP_let fun g6 e => ?_
        have f_g6 : fO (qH0 g0) g0 g6 := by rw [e, e_p5]; exact fO_tr f_g5 fn115_o
        clear e
        refine oP_ite (fun hb => ?_) (fun hb => ?_)
        · refine oP_dl ?_
          refine oP_let fun p6 e_p6 => ?_
          refine oP_let fun g7 e => ?_
          have f_g7 : fO (qH0 g0) g0 g7 := by rw [e, e_p6]; exact fO_tr f_g6 fn122_o
          clear e
          refine oP_dl ?_
          refine oP_let fun g8 e => ?_
          have f_g8 : fO (qH0 g0) g0 g8 := by rw [e]; exact fO_at f_g7 (by decide) rfl
          clear e
          refine oP_ite (fun hb => ?_) (fun hb => ?_)
          · refine oP_ite (fun hb => ?_) (fun hb => ?_)
            · refine oP_let fun p8 e_p8 => ?_
              refine oP_let fun g9 e => ?_
              have f_g9 : fO (qH0 g0) g0 g9 := by rw [e, e_p8]; exact fO_tr f_g8 fn114_o
              clear e
              refine oP_ite (fun hb => ?_) (fun hb => ?_)
              · refine oP_dl ?_
                refine oP_dl ?_
                refine oP_let fun p9 e_p9 => ?_
                refine oP_let fun g10 e => ?_
                have f_g10 : fO (qH0 g0) g0 g10 := by rw [e, e_p9]; exact fO_tr f_g9 fn106_o
                clear e
                refine oP_ite (fun hb => ?_) (fun hb => ?_)
                · refine oP_let fun p10 e_p10 => ?_
                  refine oP_let fun g11 e => ?_
                  have f_g11 : fO (qH0 g0) g0 g11 := by rw [e, e_p10]; exact fO_tr f_g10 fn115_o
                  clear e
                  refine oP_ite (fun hb => ?_) (fun hb => ?_)
                  · refine oP_let fun g12 e => ?_
                    have f_g12 : fO (qH0 g0) g0 g12 := by rw [e]; exact fO_at f_g11 (by decide) rfl
                    clear e
                    refine oP_dl ?_
                    refine oP_let fun p12 e_p12 => ?_
                    refine oP_let fun g13 e => ?_
                    have f_g13 : fO (qH0 g0) g0 g13 := by rw [e, e_p12]; exact fO_tr f_g12 fn120_o
                    clear e
                    refine oP_dl ?_
                    refine oP_let fun g14 e => ?_
                    have f_g14 : fO (qH0 g0) g0 g14 := by rw [e]; exact fO_at f_g13 (by decide) rfl
                    clear e
                    refine oP_ite (fun hb => ?_) (fun hb => ?_)
                    · exact f_g14
                    · refine oP_let fun p14 e_p14 => ?_
                      refine oP_let fun g15 e => ?_
                      have f_g15 : fO (qH0 g0) g0 g15 := by rw [e, e_p14]; exact fO_tr f_g14 fn109_o
                      clear e
                      exact f_g15
                  · exact f_g11
                · refine oP_let fun p10 e_p10 => ?_
                  refine oP_let fun g11 e => ?_
                  have f_g11 : fO (qH0 g0) g0 g11 := by rw [e, e_p10]; exact fO_tr f_g10 fn109_o
                  clear e
                  exact f_g11
              · refine oP_dl ?_
                refine oP_let fun p9 e_p9 => ?_
                refine oP_let fun g10 e => ?_
                have f_g10 : fO (qH0 g0) g0 g10 := by rw [e, e_p9]; exact fO_tr f_g9 fn106_o
                clear e
                refine oP_let fun p10 e_p10 => ?_
                refine oP_let fun g11 e => ?_
                have f_g11 : fO (qH0 g0) g0 g11 := by rw [e, e_p10]; exact fO_tr f_g10 fn109_o
                clear e
                exact f_g11
            · exact f_g8
          · refine oP_let fun p8 e_p8 => ?_
            refine oP_let fun g9 e => ?_
            have f_g9 : fO (qH0 g0) g0 g9 := by rw [e, e_p8]; exact fO_tr f_g8 fn109_o
            clear e
            exact f_g9
        · exact f_g6
      · refine oP_let fun p5 e_p5 => ?_
        refine oP_let fun g6 e => ?_
        have f_g6 : fO (qH0 g0) g0 g6 := by rw [e, e_p5]; exact fO_tr f_g5 fn109_o
        clear e
        exact f_g6
    · refine oP_dl ?_
      refine oP_let fun p4 e_p4 => ?_
      refine oP_let fun g5 e => ?_
      have f_g5 : fO (qH0 g0) g0 g5 := by rw [e, e_p4]; exact fO_tr f_g4 fn105_o
      clear e
      refine oP_let fun p5 e_p5 => ?_
      refine oP_let fun g6 e => ?_
      have f_g6 : fO (qH0 g0) g0 g6 := by rw [e, e_p5]; exact fO_tr f_g5 fn109_o
      clear e
      exact f_g6
  · refine oP_let fun p0 e_p0 => ?_
    refine oP_let fun g1 e => ?_
    have f_g1 : fO (qH0 g0) g0 g1 := by rw [e, e_p0]; exact fO_tr f_g0 fn109_o
    clear e
    exact f_g1
theorem fn150_o {x : List Int} {g0 : rHp} {G : Int} : fO G g0 (fn150 x g0).2.2 := by
  have f_g0 : fO G g0 g0 := fO_refl
  show oP (fun h => fO G g0 h) (fn150 x g0)
  unfold fn150
  refine oP_dl ?_
  refine oP_dl ?_
  refine oP_let fun p0 e_p0 => ?_
  refine oP_let fun g1 e => ?_
  have f_g1 : fO G g0 g1 := by rw [e, e_p0]; exact fO_tr f_g0 fn148_o
  clear e
  refine oP_ite (fun hb => ?_) (fun hb => ?_)
  · refine oP_let fun p1 e_p1 => ?_
    refine oP_let fun g2 e => ?_
    have f_g2 : fO G g0 g2 := by rw [e, e_p1]; exact fO_tr f_g1 fn128_o
    clear e
    refine oP_dl ?_
    refine oP_ite (fun hb => ?_) (fun hb => ?_)
    · exact f_g2
    · refine oP_let fun p2 e_p2 => ?_
      refine oP_let fun g3 e => ?_
      have f_g3 : fO G g0 g3 := by rw [e, e_p2]; exact fO_tr f_g2 fn129_o
      clear e
      refine oP_ite (fun hb => ?_) (fun hb => ?_)
      · exact f_g3
      · refine oP_let fun p3 e_p3 => ?_
        refine oP_let fun g4 e => ?_
        have f_g4 : fO G g0 g4 := by rw [e, e_p3]; exact fO_tr f_g3 fn109_o
        clear e
        exact f_g4
  · exact f_g1
theorem fn139_o {x : List Int} {g0 : rHp} : fO (x.getD 0 0) g0 (fn139 x g0).2.2 := by
  have f_g0 : fO (x.getD 0 0) g0 g0 := fO_refl
  show oP (fun h => fO (x.getD 0 0) g0 h) (fn139 x g0)
  unfold fn139
  refine oP_dl ?_
  refine oP_let fun p0 e_p0 => ?_
  refine oP_let fun g1 e => ?_
  have f_g1 : fO (x.getD 0 0) g0 g1 := by rw [e, e_p0]; exact fO_tr f_g0 fn114_o
  clear e
  refine oP_ite (fun hb => ?_) (fun hb => ?_)
  · refine oP_dl ?_
    refine oP_dl ?_
    refine oP_let fun p1 e_p1 => ?_
    refine oP_let fun g2 e => ?_
    have f_g2 : fO (x.getD 0 0) g0 g2 := by rw [e, e_p1]; exact fO_tr f_g1 fn106_o
    clear e
    refine oP_ite (fun hb => ?_) (fun hb => ?_)
    · refine oP_let fun p2 e_p2 => ?_
      refine oP_let fun g3 e => ?_
      have f_g3 : fO (x.getD 0 0) g0 g3 := by rw [e, e_p2]; exact fO_tr f_g2 fn115_o
      clear e
      refine oP_ite (fun hb => ?_) (fun hb => ?_)
      · refine oP_dl ?_
        refine oP_let fun p3 e_p3 => ?_
        refine oP_let fun g4 e => ?_
        have f_g4 : fO (x.getD 0 0) g0 g4 := by rw [e, e_p3]; exact fO_tr f_g3 fn138_o
        clear e
        refine oP_ite (fun hb => ?_) (fun hb => ?_)
        · exact f_g4
        · exact f_g4
      · exact f_g3
    · refine oP_let fun p2 e_p2 => ?_
      refine oP_let fun g3 e => ?_
      have f_g3 : fO (x.getD 0 0) g0 g3 := by rw [e, e_p2]; exact fO_tr f_g2 fn136_o
      clear e
      refine oP_ite (fun hb => ?_) (fun hb => ?_)
      · exact f_g3
      · exact f_g3
  · refine oP_let fun p1 e_p1 => ?_
    refine oP_let fun g2 e => ?_
    have f_g2 : fO (x.getD 0 0) g0 g2 := by rw [e, e_p1]; exact fO_tr f_g1 fn106_o
    clear e
    refine oP_let fun p2 e_p2 => ?_
    refine oP_let fun g3 e => ?_
    have f_g3 : fO (x.getD 0 0) g0 g3 := by rw [e, e_p2]; exact fO_tr f_g2 fn136_o
    clear e
    exact f_g3
theorem fn142_o {x : List Int} {g0 : rHp} : fO (qG g0) g0 (fn142 x g0).2.2 := by
  have f_g0 : fO (qG g0) g0 g0 := fO_refl
  show oP (fun h => fO (qG g0) g0 h) (fn142 x g0)
  unfold fn142
  refine oP_dl ?_
  refine oP_dl ?_
  refine oP_dl ?_
  refine oP_let fun p0 e_p0 => ?_
  refine oP_let fun g1 e => ?_
  have f_g1 : fO (qG g0) g0 g1 := by rw [e, e_p0]; exact fO_tr f_g0 fn114_o
  clear e
  refine oP_ite (fun hb => ?_) (fun hb => ?_)
  · refine oP_dl ?_
    refine oP_dl ?_
    refine oP_let fun p1 e_p1 => ?_
    refine oP_let fun g2 e => ?_
    have f_g2 : fO (qG g0) g0 g2 := by rw [e, e_p1]; exact fO_tr f_g1 fn106_o
    clear e
    refine oP_ite (fun hb => ?_) (fun hb => ?_)
    · refine oP_let fun p2 e_p2 => ?_
      refine oP_let fun g3 e => ?_
      have f_g3 : fO (qG g0) g0 g3 := by rw [e, e_p2]; exact fO_tr f_g2 fn115_o
      clear e
      refine oP_ite (fun hb => ?_) (fun hb => ?_)
      · refine oP_let fun p3 e_p3 => ?_
        refine oP_let fun g4 e => ?_
        have f_g4 : fO (qG g0) g0 g4 := by rw [e, e_p3]; exact fO_tr f_g3 fn137_o
        clear e
        refine oP_ite (fun hb => ?_) (fun hb => ?_)
        · exact f_g4
        · exact f_g4
      · exact f_g3
    · refine oP_ite (fun hb => ?_) (fun hb => ?_)
      · refine oP_ite (fun hb => ?_) (fun hb => ?_)
        · refine oP_let fun p2 e_p2 => ?_
          refine oP_let fun g3 e => ?_
          have f_g3 : fO (qG g0) g0 g3 := by rw [e, e_p2]; exact fO_tr f_g2 fn136_o
          clear e
          refine oP_ite (fun hb => ?_) (fun hb => ?_)
          · exact f_g3
          · exact f_g3
        · refine oP_let fun p2 e_p2 => ?_
          refine oP_let fun g3 e => ?_
          have f_g3 : fO (qG g0) g0 g3 := by rw [e, e_p2]; exact fO_tr f_g2 fn104_o
          clear e
          refine oP_let fun g4 e => ?_
          have f_g4 : fO (qG g0) g0 g4 := by rw [e]; exact fO_2 f_g3 (by decide)
          clear e
          exact f_g4
      · refine oP_let fun p2 e_p2 => ?_
        refine oP_let fun g3 e => ?_
        have f_g3 : fO (qG g0) g0 g3 := by rw [e, e_p2]; exact fO_tr f_g2 fn136_o
        clear e
        refine oP_ite (fun hb => ?_) (fun hb => ?_)
        · exact f_g3
        · exact f_g3
  · refine oP_let fun p1 e_p1 => ?_
    refine oP_let fun g2 e => ?_
    have f_g2 : fO (qG g0) g0 g2 := by rw [e, e_p1]; exact fO_tr f_g1 fn106_o
    clear e
    refine oP_let fun p2 e_p2 => ?_
    refine oP_let fun g3 e => ?_
    have f_g3 : fO (qG g0) g0 g3 := by rw [e, e_p2]; exact fO_tr f_g2 fn136_o
    clear e
    exact f_g3
theorem fn141_o {x : List Int} {g0 : rHp} : fO (qH0 g0) g0 (fn141 x g0).2.2 := by
  have f_g0 : fO (qH0 g0) g0 g0 := fO_refl
  show oP (fun h => fO (qH0 g0) g0 h) (fn141 x g0)
  unfold fn141
  refine oP_dl ?_
  refine oP_dl ?_
  refine oP_let fun p0 e_p0 => ?_
  refine oP_let fun g1 e => ?_
  have f_g1 : fO (qH0 g0) g0 g1 := by rw [e, e_p0]; exact fO_tr f_g0 fn114_o
  clear e
  refine oP_ite (fun hb => ?_) (fun hb => ?_)
  · refine oP_dl ?_
    refine oP_let fun p1 e_p1 => ?_
    refine oP_let fun g2 e => ?_
    have f_g2 : fO (qH0 g0) g0 g2 := by rw [e, e_p1]; exact fO_tr f_g1 fn106_o
    clear e
    refine oP_ite (fun hb => ?_) (fun hb => ?_)
    · refine oP_let fun p2 e_p2 => ?_
      refine oP_let fun g3 e => ?_
      have f_g3 : fO (qH0 g0) g0 g3 := by rw [e, e_p2]; exact fO_tr f_g2 fn115_o
      clear e
      refine oP_ite (fun hb => ?_) (fun hb => ?_)
      · refine oP_let fun p3 e_p3 => ?_
        refine oP_let fun g4 e => ?_
        have f_g4 : fO (qH0 g0) g0 g4 := by rw [e, e_p3]; exact fO_tr f_g3 fn137_o
        clear e
        refine oP_ite (fun hb => ?_) (fun hb => ?_)
        · exact f_g4
        · exact f_g4
      · exact f_g3
    · refine oP_ite (fun hb => ?_) (fun hb => ?_)
      · refine oP_let fun p2 e_p2 => ?_
        refine oP_let fun g3 e => ?_
        have f_g3 : fO (qH0 g0) g0 g3 := by rw [e, e_p2]; exact fO_tr f_g2 fn136_o
        clear e
        refine oP_ite (fun hb => ?_) (fun hb => ?_)
        · exact f_g3
        · exact f_g3
      · refine oP_let fun p2 e_p2 => ?_
        refine oP_let fun g3 e => ?_
        have f_g3 : fO (qH0 g0) g0 g3 := by rw [e, e_p2]; exact fO_h f_g2 fn140_o
        clear e
        refine oP_ite (fun hb => ?_) (fun hb => ?_)
        · exact f_g3
        · exact f_g3
  · refine oP_let fun p1 e_p1 => ?_
    refine oP_let fun g2 e => ?_
    have f_g2 : fO (qH0 g0) g0 g2 := by rw [e, e_p1]; exact fO_tr f_g1 fn106_o
    clear e
    refine oP_let fun p2 e_p2 => ?_
    refine oP_let fun g3 e => ?_
    have f_g3 : fO (qH0 g0) g0 g3 := by rw [e, e_p2]; exact fO_tr f_g2 fn136_o
    clear e
    exact f_g3
theorem fn155_o {x : List Int} {g0 : rHp} : fO (qG g0) g0 (fn155 x g0).2.2 := by
  have f_g0 : fO (qG g0) g0 g0 := fO_refl
  show oP (fun h => fO (qG g0) g0 h) (fn155 x g0)
  unfold fn155
  refine oP_dl ?_
  refine oP_dl ?_
  refine oP_dl ?_
  refine oP_dl ?_
  refine oP_dl ?_
  refine oP_let fun p0 e_p0 => ?_
  refine oP_let fun g1 e => ?_
  have f_g1 : fO (qG g0) g0 g1 := by rw [e, e_p0]; exact fO_g f_g0 fn103_o
  clear e
  refine oP_let fun p1 e_p1 => ?_
  refine oP_let fun g2 e => ?_
  have f_g2 : fO (qG g0) g0 g2 := by rw [e, e_p1]; exact fO_g f_g1 fn154_o
  clear e
  refine oP_ite (fun hb => ?_) (fun hb => ?_)
  · refine oP_let fun p2 e_p2 => ?_
    refine oP_let fun g3 e => ?_
    have f_g3 : fO (qG g0) g0 g3 := by rw [e, e_p2]; exact fO_tr f_g2 fn138_o
    clear e
    refine oP_ite (fun hb => ?_) (fun hb => ?_)
    · refine oP_let fun p3 e_p3 => ?_
      refine oP_let fun g4 e => ?_
      have f_g4 : fO (qG g0) g0 g4 := by rw [e, e_p3]; exact fO_tr f_g3 fn139_o
      clear e
      refine oP_ite (fun hb => ?_) (fun hb => ?_)
      · exact f_g4
      · exact f_g4
    · exact f_g3
  · exact f_g2
theorem fn156_o {x : List Int} {g0 : rHp} : fO (qG g0) g0 (fn156 x g0).2.2 := by
  have f_g0 : fO (qG g0) g0 g0 := fO_refl
  show oP (fun h => fO (qG g0) g0 h) (fn156 x g0)
  unfold fn156
  refine oP_dl ?_
  refine oP_dl ?_
  refine oP_dl ?_
  refine oP_dl ?_
  refine oP_dl ?_
  refine oP_dl ?_
  refine oP_dl ?_
  refine oP_let fun p0 e_p0 => ?_
  refine oP_let fun g1 e => ?_
  have f_g1 : fO (qG g0) g0 g1 := by rw [e, e_p0]; exact fO_tr f_g0 fn115_o
  clear e
  refine oP_ite (fun hb => ?_) (fun hb => ?_)
  · refine oP_dl ?_
    refine oP_ite (fun hb => ?_) (fun hb => ?_)
    · refine oP_let fun p1 e_p1 => ?_
      refine oP_let fun g2 e => ?_
      have f_g2 : fO (qG g0) g0 g2 := by rw [e, e_p1]; exact fO_g f_g1 fn103_o
      clear e
      refine oP_let fun p2 e_p2 => ?_
      refine oP_let fun g3 e => ?_
      have f_g3 : fO (qG g0) g0 g3 := by rw [e, e_p2]; exact fO_tr f_g2 fn120_o
      clear e
      refine oP_dl ?_
      refine oP_let fun g4 e => ?_
      have f_g4 : fO (qG g0) g0 g4 := by rw [e]; exact fO_at f_g3 (by decide) rfl
      clear e
      refine oP_ite (fun hb => ?_) (fun hb => ?_)
      · refine oP_let fun p4 e_p4 => ?_
        refine oP_let fun g5 e => ?_
        have f_g5 : fO (qG g0) g0 g5 := by rw [e, e_p4]; exact fO_tr f_g4 fn109_o
        clear e
        exact f_g5
      · refine oP_let fun p4 e_p4 => ?_
        refine oP_let fun g5 e => ?_
        have f_g5 : fO (qG g0) g0 g5 := by rw [e, e_p4]; exact fO_tr f_g4 fn117_o
        clear e
        refine oP_ite (fun hb => ?_) (fun hb => ?_)
        · refine oP_let fun p5 e_p5 => ?_
          refine oP_let fun g6 e => ?_
          have f_g6 : fO (qG g0) g0 g6 := by rw [e, e_p5]; exact fO_tr f_g5 fn109_o
          clear e
          exact f_g6
        · refine oP_let fun p5 e_p5 => ?_
          refine oP_let fun g6 e => ?_
          have f_g6 : fO (qG g0) g0 g6 := by rw [e, e_p5]; exact fO_tr f_g5 fn139_o
          clear e
          refine oP_ite (fun hb => ?_) (fun hb => ?_)
          · refine oP_let fun p6 e_p6 => ?_
            refine oP_let fun g7 e => ?_
            have f_g7 : fO (qG g0) g0 g7 := by rw [e, e_p6]; exact fO_tr f_g6 fn114_o
            clear e
            refine oP_ite (fun hb => ?_) (fun hb => ?_)
            · refine oP_dl ?_
              refine oP_dl ?_
              refine oP_ite (fun hb => ?_) (fun hb => ?_)
              · refine oP_let fun g8 e => ?_
                have f_g8 : fO (qG g0) g0 g8 := by rw [e]; exact fO_2 f_g7 (by decide)
                clear e
                refine oP_let fun g9 e => ?_
                have f_g9 : fO (qG g0) g0 g9 := by rw [e]; exact fO_at f_g8 (by decide) rfl
                clear e
                refine oP_let fun p9 e_p9 => ?_
                refine oP_let fun g10 e => ?_
                have f_g10 : fO (qG g0) g0 g10 := by rw [e, e_p9]; exact fO_tr f_g9 fn139_o
                clear e
                refine oP_ite (fun hb => ?_) (fun hb => ?_)
                · refine oP_dl ?_
                  refine oP_dl ?_
                  refine oP_let fun g11 e => ?_
                  have f_g11 : fO (qG g0) g0 g11 := by rw [e]; exact fO_2 f_g10 (by decide)
                  clear e
                  exact f_g11
                · exact f_g10
              · refine oP_ite (fun hb => ?_) (fun hb => ?_)
                · refine oP_let fun g8 e => ?_
                  have f_g8 : fO (qG g0) g0 g8 := by rw [e]; exact fO_2 f_g7 (by decide)
                  clear e
                  refine oP_let fun g9 e => ?_
                  have f_g9 : fO (qG g0) g0 g9 := by rw [e]; exact fO_at f_g8 (by decide) rfl
                  clear e
                  refine oP_let fun p9 e_p9 => ?_
                  refine oP_let fun g10 e => ?_
                  have f_g10 : fO (qG g0) g0 g10 := by rw [e, e_p9]; exact fO_tr f_g9 fn139_o
                  clear e
                  refine oP_ite (fun hb => ?_) (fun hb => ?_)
                  · refine oP_dl ?_
                    refine oP_dl ?_
                    refine oP_let fun g11 e => ?_
                    have f_g11 : fO (qG g0) g0 g11 := by rw [e]; exact fO_2 f_g10 (by decide)
                    clear e
                    exact f_g11
                  · exact f_g10
                · refine oP_ite (fun hb => ?_) (fun hb => ?_)
                  · refine oP_let fun g8 e => ?_
                    have f_g8 : fO (qG g0) g0 g8 := by rw [e]; exact fO_2 f_g7 (by decide)
                    clear e
                    refine oP_let fun g9 e => ?_
                    have f_g9 : fO (qG g0) g0 g9 := by rw [e]; exact fO_at f_g8 (by decide) rfl
                    clear e
                    refine oP_let fun p9 e_p9 => ?_
                    refine oP_let fun g10 e => ?_
                    have f_g10 : fO (qG g0) g0 g10 := by rw [e, e_p9]; exact fO_tr f_g9 fn139_o
                    clear e
                    refine oP_ite (fun hb => ?_) (fun hb => ?_)
                    · refine oP_dl ?_
                      refine oP_dl ?_
                      refine oP_let fun g11 e => ?_
                      have f_g11 : fO (qG g0) g0 g11 := by rw [e]; exact fO_2 f_g10 (by decide)
                      clear e
                      exact f_g11
                    · exact f_g10
                  · refine oP_let fun p7 e_p7 => ?_
                    refine oP_let fun g8 e => ?_
                    have f_g8 : fO (qG g0) g0 g8 := by rw [e, e_p7]; exact fO_tr f_g7 fn109_o
                    clear e
                    exact f_g8
            · refine oP_dl ?_
              refine oP_let fun p7 e_p7 => ?_
              refine oP_let fun g8 e => ?_
              have f_g8 : fO (qG g0) g0 g8 := by rw [e, e_p7]; exact fO_tr f_g7 fn109_o
              clear e
              exact f_g8
          · exact f_g6
    · refine oP_let fun p1 e_p1 => ?_
      refine oP_let fun g2 e => ?_
      have f_g2 : fO (qG g0) g0 g2 := by rw [e, e_p1]; exact fO_tr f_g1 fn109_o
      clear e
      exact f_g2
  · exact f_g1
theorem fn145_o {x : List Int} {g0 : rHp} : fO (qG g0) g0 (fn145 x g0).2.2 := by
  have f_g0 : fO (qG g0) g0 g0 := fO_refl
  refine zGoo_P (I := fun s => fO (qG g0) g0 s.2.2) fO_zero (fun s hs => ?_) ?_
  · unfold en145
    refine oS_ite (fun hb => ?_) (fun hb => ?_)
    · refine oS_let fun g1 e => ?_
      have f_g1 : fO (qG g0) g0 g1 := by rw [e]; exact hs
      clear e
      refine oS_dl ?_
      refine oS_dl ?_
      refine oS_dl ?_
      refine oS_dl ?_
      refine oS_dl ?_
      refine oS_dl ?_
      refine oS_ite (fun hb => ?_) (fun hb => ?_)
      · refine oS_let fun p1 e_p1 => ?_
        refine oS_let fun g2 e => ?_
        have f_g2 : fO (qG g0) g0 g2 := by rw [e, e_p1]; exact fO_tr f_g1 fn114_o
        clear e
        refine oS_ite (fun hb => ?_) (fun hb => ?_)
        · refine oS_dl ?_
          refine oS_let fun p2 e_p2 => ?_
          refine oS_let fun g3 e => ?_
          have f_g3 : fO (qG g0) g0 g3 := by rw [e, e_p2]; exact fO_tr f_g2 fn109_o
          clear e
          exact f_g3
        · refine oS_dl ?_
          refine oS_let fun p2 e_p2 => ?_
          refine oS_let fun g3 e => ?_
          have f_g3 : fO (qG g0) g0 g3 := by rw [e, e_p2]; exact fO_tr f_g2 fn109_o
          clear e
          exact f_g3
      · refine oS_let fun p1 e_p1 => ?_
        refine oS_let fun g2 e => ?_
        have f_g2 : fO (qG g0) g0 g2 := by rw [e, e_p1]; exact fO_g f_g1 fn142_o
        clear e
        refine oS_ite (fun hb => ?_) (fun hb => ?_)
        · refine oS_ite (fun hb => ?_) (fun hb => ?_)
          · refine oS_let fun p2 e_p2 => ?_
            refine oS_let fun g3 e => ?_
            have f_g3 : fO (qG g0) g0 g3 := by rw [e, e_p2]; exact fO_tr f_g2 fn114_o
            clear e
            refine oS_ite (fun hb => ?_) (fun hb => ?_)
            · refine oS_dl ?_
              refine oS_dl ?_
              refine oS_ite (fun hb => ?_) (fun hb => ?_)
              · refine oS_let fun g4 e => ?_
                have f_g4 : fO (qG g0) g0 g4 := by rw [e]; exact fO_2 f_g3 (by decide)
                clear e
                refine oS_let fun p4 e_p4 => ?_
                refine oS_let fun g5 e => ?_
                have f_g5 : fO (qG g0) g0 g5 := by rw [e, e_p4]; exact fO_g f_g4 fn134_o
                clear e
                refine oS_ite (fun hb => ?_) (fun hb => ?_)
                · exact f_g5
                · exact f_g5
              · refine oS_ite (fun hb => ?_) (fun hb => ?_)
                · refine oS_let fun g4 e => ?_
                  have f_g4 : fO (qG g0) g0 g4 := by rw [e]; exact fO_2 f_g3 (by decide)
                  clear e
                  exact f_g4
                · refine oS_let fun p3 e_p3 => ?_
                  refine oS_let fun g4 e => ?_
                  have f_g4 : fO (qG g0) g0 g4 := by rw [e, e_p3]; exact fO_tr f_g3 fn109_o
                  clear e
                  exact f_g4
            · refine oS_dl ?_
              refine oS_let fun p3 e_p3 => ?_
              refine oS_let fun g4 e => ?_
              have f_g4 : fO (qG g0) g0 g4 := by rw [e, e_p3]; exact fO_tr f_g3 fn109_o
              clear e
              exact f_g4
          · refine oS_let fun p2 e_p2 => ?_
            refine oS_let fun g3 e => ?_
            have f_g3 : fO (qG g0) g0 g3 := by rw [e, e_p2]; exact fO_tr f_g2 fn143_o
            clear e
            refine oS_ite (fun hb => ?_) (fun hb => ?_)
            · refine oS_let fun g4 e => ?_
              have f_g4 : fO (qG g0) g0 g4 := by rw [e]; exact fO_at f_g3 (by decide) rfl
              clear e
              refine oS_let fun p4 e_p4 => ?_
              refine oS_let fun g5 e => ?_
              have f_g5 : fO (qG g0) g0 g5 := by rw [e, e_p4]; exact fO_tr f_g4 fn114_o
              clear e
              refine oS_ite (fun hb => ?_) (fun hb => ?_)
              · refine oS_dl ?_
                refine oS_dl ?_
                refine oS_ite (fun hb => ?_) (fun hb => ?_)
                · refine oS_let fun g6 e => ?_
                  have f_g6 : fO (qG g0) g0 g6 := by rw [e]; exact fO_2 f_g5 (by decide)
                  clear e
                  refine oS_let fun p6 e_p6 => ?_
                  refine oS_let fun g7 e => ?_
                  have f_g7 : fO (qG g0) g0 g7 := by rw [e, e_p6]; exact fO_g f_g6 fn134_o
                  clear e
                  refine oS_ite (fun hb => ?_) (fun hb => ?_)
                  · exact f_g7
                  · exact f_g7
                · refine oS_ite (fun hb => ?_) (fun hb => ?_)
                  · refine oS_let fun g6 e => ?_
                    have f_g6 : fO (qG g0) g0 g6 := by rw [e]; exact fO_2 f_g5 (by decide)
                    clear e
                    exact f_g6
                  · refine oS_let fun p5 e_p5 => ?_
                    refine oS_let fun g6 e => ?_
                    have f_g6 : fO (qG g0) g0 g6 := by rw [e, e_p5]; exact fO_tr f_g5 fn109_o
                    clear e
                    exact f_g6
              · refine oS_dl ?_
                refine oS_let fun p5 e_p5 => ?_
                refine oS_let fun g6 e => ?_
                have f_g6 : fO (qG g0) g0 g6 := by rw [e, e_p5]; exact fO_tr f_g5 fn109_o
                clear e
                exact f_g6
            · refine oS_let fun p3 e_p3 => ?_
              refine oS_let fun g4 e => ?_
              have f_g4 : fO (qG g0) g0 g4 := by rw [e, e_p3]; exact fO_tr f_g3 fn114_o
              clear e
              refine oS_ite (fun hb => ?_) (fun hb => ?_)
              · refine oS_dl ?_
                refine oS_dl ?_
                refine oS_ite (fun hb => ?_) (fun hb => ?_)
                · refine oS_let fun g5 e => ?_
                  have f_g5 : fO (qG g0) g0 g5 := by rw [e]; exact fO_2 f_g4 (by decide)
                  clear e
                  refine oS_let fun p5 e_p5 => ?_
                  refine oS_let fun g6 e => ?_
                  have f_g6 : fO (qG g0) g0 g6 := by rw [e, e_p5]; exact fO_g f_g5 fn134_o
                  clear e
                  refine oS_ite (fun hb => ?_) (fun hb => ?_)
                  · exact f_g6
                  · exact f_g6
                · refine oS_ite (fun hb => ?_) (fun hb => ?_)
                  · refine oS_let fun g5 e => ?_
                    have f_g5 : fO (qG g0) g0 g5 := by rw [e]; exact fO_2 f_g4 (by decide)
                    clear e
                    exact f_g5
                  · refine oS_let fun p4 e_p4 => ?_
                    refine oS_let fun g5 e => ?_
                    have f_g5 : fO (qG g0) g0 g5 := by rw [e, e_p4]; exact fO_tr f_g4 fn109_o
                    clear e
                    exact f_g5
              · refine oS_dl ?_
                refine oS_let fun p4 e_p4 => ?_
                refine oS_let fun g5 e => ?_
                have f_g5 : fO (qG g0) g0 g5 := by rw [e, e_p4]; exact fO_tr f_g4 fn109_o
                clear e
                exact f_g5
        · exact f_g2
    · exact f_g0
  · unfold dn145
    refine oS_dl ?_
    refine oS_dl ?_
    refine oS_dl ?_
    refine oS_let fun p0 e_p0 => ?_
    refine oS_let fun g1 e => ?_
    have f_g1 : fO (qG g0) g0 g1 := by rw [e, e_p0]; exact fO_g f_g0 fn103_o
    clear e
    refine oS_let fun p1 e_p1 => ?_
    refine oS_let fun g2 e => ?_
    have f_g2 : fO (qG g0) g0 g2 := by rw [e, e_p1]; exact fO_tr f_g1 fn114_o
    clear e
    refine oS_ite (fun hb => ?_) (fun hb => ?_)
    · refine oS_dl ?_
      refine oS_dl ?_
      refine oS_ite (fun hb => ?_) (fun hb => ?_)
      · refine oS_let fun g3 e => ?_
        have f_g3 : fO (qG g0) g0 g3 := by rw [e]; exact fO_2 f_g2 (by decide)
        clear e
        exact f_g3
      · refine oS_let fun p2 e_p2 => ?_
        refine oS_let fun g3 e => ?_
        have f_g3 : fO (qG g0) g0 g3 := by rw [e, e_p2]; exact fO_tr f_g2 fn109_o
        clear e
        exact f_g3
    · refine oS_dl ?_
      refine oS_let fun p2 e_p2 => ?_
      refine oS_let fun g3 e => ?_
      have f_g3 : fO (qG g0) g0 g3 := by rw [e, e_p2]; exact fO_tr f_g2 fn109_o
      clear e
      exact f_g3
theorem fn144_o {x : List Int} {g0 : rHp} : fO (qH0 g0) g0 (fn144 x g0).2.2 := by
  have f_g0 : fO (qH0 g0) g0 g0 := fO_refl
  refine zGoo_P (I := fun s => fO (qH0 g0) g0 s.2.2) fO_zero (fun s hs => ?_) ?_
  · unfold en144
    refine oS_ite (fun hb => ?_) (fun hb => ?_)
    · refine oS_let fun g1 e => ?_
      have f_g1 : fO (qH0 g0) g0 g1 := by rw [e]; exact hs
      clear e
      refine oS_dl ?_
      refine oS_dl ?_
      refine oS_dl ?_
      refine oS_dl ?_
      refine oS_dl ?_
      refine oS_ite (fun hb => ?_) (fun hb => ?_)
      · refine oS_let fun p1 e_p1 => ?_
        refine oS_let fun g2 e => ?_
        have f_g2 : fO (qH0 g0) g0 g2 := by rw [e, e_p1]; exact fO_tr f_g1 fn114_o
        clear e
        refine oS_ite (fun hb => ?_) (fun hb => ?_)
        · refine oS_dl ?_
          refine oS_let fun p2 e_p2 => ?_
          refine oS_let fun g3 e => ?_
          have f_g3 : fO (qH0 g0) g0 g3 := by rw [e, e_p2]; exact fO_tr f_g2 fn109_o
          clear e
          exact f_g3
        · refine oS_dl ?_
          refine oS_let fun p2 e_p2 => ?_
          refine oS_let fun g3 e => ?_
          have f_g3 : fO (qH0 g0) g0 g3 := by rw [e, e_p2]; exact fO_tr f_g2 fn109_o
          clear e
          exact f_g3
      · refine oS_let fun p1 e_p1 => ?_
        refine oS_let fun g2 e => ?_
        have f_g2 : fO (qH0 g0) g0 g2 := by rw [e, e_p1]; exact fO_h f_g1 fn141_o
        clear e
        refine oS_ite (fun hb => ?_) (fun hb => ?_)
        · refine oS_ite (fun hb => ?_) (fun hb => ?_)
          · refine oS_let fun p2 e_p2 => ?_
            refine oS_let fun g3 e => ?_
            have f_g3 : fO (qH0 g0) g0 g3 := by rw [e, e_p2]; exact fO_tr f_g2 fn114_o
            clear e
            refine oS_ite (fun hb => ?_) (fun hb => ?_)
            · refine oS_dl ?_
              refine oS_dl ?_
              refine oS_ite (fun hb => ?_) (fun hb => ?_)
              · refine oS_let fun g4 e => ?_
                have f_g4 : fO (qH0 g0) g0 g4 := by rw [e]; exact fO_2 f_g3 (by decide)
                clear e
                refine oS_let fun p4 e_p4 => ?_
                refine oS_let fun g5 e => ?_
                have f_g5 : fO (qH0 g0) g0 g5 := by rw [e, e_p4]; exact fO_h f_g4 fn133_o
                clear e
                refine oS_ite (fun hb => ?_) (fun hb => ?_)
                · exact f_g5
                · exact f_g5
              · refine oS_ite (fun hb => ?_) (fun hb => ?_)
                · refine oS_let fun g4 e => ?_
                  have f_g4 : fO (qH0 g0) g0 g4 := by rw [e]; exact fO_2 f_g3 (by decide)
                  clear e
                  exact f_g4
                · refine oS_let fun p3 e_p3 => ?_
                  refine oS_let fun g4 e => ?_
                  have f_g4 : fO (qH0 g0) g0 g4 := by rw [e, e_p3]; exact fO_tr f_g3 fn109_o
                  clear e
                  exact f_g4
            · refine oS_dl ?_
              refine oS_let fun p3 e_p3 => ?_
              refine oS_let fun g4 e => ?_
              have f_g4 : fO (qH0 g0) g0 g4 := by rw [e, e_p3]; exact fO_tr f_g3 fn109_o
              clear e
              exact f_g4
          · refine oS_let fun p2 e_p2 => ?_
            refine oS_let fun g3 e => ?_
            have f_g3 : fO (qH0 g0) g0 g3 := by rw [e, e_p2]; exact fO_tr f_g2 fn143_o
            clear e
            refine oS_ite (fun hb => ?_) (fun hb => ?_)
            · refine oS_let fun g4 e => ?_
              have f_g4 : fO (qH0 g0) g0 g4 := by rw [e]; exact fO_at f_g3 (by decide) rfl
              clear e
              refine oS_let fun p4 e_p4 => ?_
              refine oS_let fun g5 e => ?_
              have f_g5 : fO (qH0 g0) g0 g5 := by rw [e, e_p4]; exact fO_tr f_g4 fn114_o
              clear e
              refine oS_ite (fun hb => ?_) (fun hb => ?_)
              · refine oS_dl ?_
                refine oS_dl ?_
                refine oS_ite (fun hb => ?_) (fun hb => ?_)
                · refine oS_let fun g6 e => ?_
                  have f_g6 : fO (qH0 g0) g0 g6 := by rw [e]; exact fO_2 f_g5 (by decide)
                  clear e
                  refine oS_let fun p6 e_p6 => ?_
                  refine oS_let fun g7 e => ?_
                  have f_g7 : fO (qH0 g0) g0 g7 := by rw [e, e_p6]; exact fO_h f_g6 fn133_o
                  clear e
                  refine oS_ite (fun hb => ?_) (fun hb => ?_)
                  · exact f_g7
                  · exact f_g7
                · refine oS_ite (fun hb => ?_) (fun hb => ?_)
                  · refine oS_let fun g6 e => ?_
                    have f_g6 : fO (qH0 g0) g0 g6 := by rw [e]; exact fO_2 f_g5 (by decide)
                    clear e
                    exact f_g6
                  · refine oS_let fun p5 e_p5 => ?_
                    refine oS_let fun g6 e => ?_
                    have f_g6 : fO (qH0 g0) g0 g6 := by rw [e, e_p5]; exact fO_tr f_g5 fn109_o
                    clear e
                    exact f_g6
              · refine oS_dl ?_
                refine oS_let fun p5 e_p5 => ?_
                refine oS_let fun g6 e => ?_
                have f_g6 : fO (qH0 g0) g0 g6 := by rw [e, e_p5]; exact fO_tr f_g5 fn109_o
                clear e
                exact f_g6
            · refine oS_let fun p3 e_p3 => ?_
              refine oS_let fun g4 e => ?_
              have f_g4 : fO (qH0 g0) g0 g4 := by rw [e, e_p3]; exact fO_tr f_g3 fn114_o
              clear e
              refine oS_ite (fun hb => ?_) (fun hb => ?_)
              · refine oS_dl ?_
                refine oS_dl ?_
                refine oS_ite (fun hb => ?_) (fun hb => ?_)
                · refine oS_let fun g5 e => ?_
                  have f_g5 : fO (qH0 g0) g0 g5 := by rw [e]; exact fO_2 f_g4 (by decide)
                  clear e
                  refine oS_let fun p5 e_p5 => ?_
                  refine oS_let fun g6 e => ?_
                  have f_g6 : fO (qH0 g0) g0 g6 := by rw [e, e_p5]; exact fO_h f_g5 fn133_o
                  clear e
                  refine oS_ite (fun hb => ?_) (fun hb => ?_)
                  · exact f_g6
                  · exact f_g6
                · refine oS_ite (fun hb => ?_) (fun hb => ?_)
                  · refine oS_let fun g5 e => ?_
                    have f_g5 : fO (qH0 g0) g0 g5 := by rw [e]; exact fO_2 f_g4 (by decide)
                    clear e
                    exact f_g5
                  · refine oS_let fun p4 e_p4 => ?_
                    refine oS_let fun g5 e => ?_
                    have f_g5 : fO (qH0 g0) g0 g5 := by rw [e, e_p4]; exact fO_tr f_g4 fn109_o
                    clear e
                    exact f_g5
              · refine oS_dl ?_
                refine oS_let fun p4 e_p4 => ?_
                refine oS_let fun g5 e => ?_
                have f_g5 : fO (qH0 g0) g0 g5 := by rw [e, e_p4]; exact fO_tr f_g4 fn109_o
                clear e
                exact f_g5
        · exact f_g2
    · exact f_g0
  · unfold dn144
    refine oS_dl ?_
    refine oS_dl ?_
    refine oS_let fun p0 e_p0 => ?_
    refine oS_let fun g1 e => ?_
    have f_g1 : fO (qH0 g0) g0 g1 := by rw [e, e_p0]; exact fO_h f_g0 fn102_o
    clear e
    refine oS_let fun p1 e_p1 => ?_
    refine oS_let fun g2 e => ?_
    have f_g2 : fO (qH0 g0) g0 g2 := by rw [e, e_p1]; exact fO_tr f_g1 fn114_o
    clear e
    refine oS_ite (fun hb => ?_) (fun hb => ?_)
    · refine oS_dl ?_
      refine oS_dl ?_
      refine oS_ite (fun hb => ?_) (fun hb => ?_)
      · refine oS_let fun g3 e => ?_
        have f_g3 : fO (qH0 g0) g0 g3 := by rw [e]; exact fO_2 f_g2 (by decide)
        clear e
        exact f_g3
      · refine oS_let fun p2 e_p2 => ?_
        refine oS_let fun g3 e => ?_
        have f_g3 : fO (qH0 g0) g0 g3 := by rw [e, e_p2]; exact fO_tr f_g2 fn109_o
        clear e
        exact f_g3
    · refine oS_dl ?_
      refine oS_let fun p2 e_p2 => ?_
      refine oS_let fun g3 e => ?_
      have f_g3 : fO (qH0 g0) g0 g3 := by rw [e, e_p2]; exact fO_tr f_g2 fn109_o
      clear e
      exact f_g3
theorem fn157_o {x : List Int} {g0 : rHp} : fO (qG g0) g0 (fn157 x g0).2.2 := by
  have f_g0 : fO (qG g0) g0 g0 := fO_refl
  show oP (fun h => fO (qG g0) g0 h) (fn157 x g0)
  unfold fn157
  refine oP_dl ?_
  refine oP_dl ?_
  refine oP_dl ?_
  refine oP_let fun p0 e_p0 => ?_
  refine oP_let fun g1 e => ?_
  have f_g1 : fO (qG g0) g0 g1 := by rw [e, e_p0]; exact fO_tr f_g0 fn114_o
  clear e
  refine oP_ite (fun hb => ?_) (fun hb => ?_)
  · refine oP_dl ?_
    refine oP_dl ?_
    refine oP_ite (fun hb => ?_) (fun hb => ?_)
    · refine oP_let fun p1 e_p1 => ?_
      refine oP_let fun g2 e => ?_
      have f_g2 : fO (qG g0) g0 g2 := by rw [e, e_p1]; exact fO_tr f_g1 fn106_o
      clear e
      refine oP_ite (fun hb => ?_) (fun hb => ?_)
      · refine oP_let fun p2 e_p2 => ?_
        refine oP_let fun g3 e => ?_
        have f_g3 : fO (qG g0) g0 g3 := by rw [e, e_p2]; exact fO_tr f_g2 fn115_o
        clear e
        refine oP_ite (fun hb => ?_) (fun hb => ?_)
        · refine oP_let fun p3 e_p3 => ?_
          refine oP_let fun g4 e => ?_
          have f_g4 : fO (qG g0) g0 g4 := by rw [e, e_p3]; exact fO_tr f_g3 fn114_o
          clear e
          refine oP_ite (fun hb => ?_) (fun hb => ?_)
          · refine oP_dl ?_
            refine oP_let fun p4 e_p4 => ?_
            refine oP_let fun g5 e => ?_
            have f_g5 : fO (qG g0) g0 g5 := by rw [e, e_p4]; exact fO_tr f_g4 fn105_o
            clear e
            refine oP_ite (fun hb => ?_) (fun hb => ?_)
            · refine oP_dl ?_
              refine oP_let fun p5 e_p5 => ?_
              refine oP_let fun g6 e => ?_
              have f_g6 : fO (qG g0) g0 g6 := by rw [e, e_p5]; exact fO_g f_g5 fn156_o
              clear e
              refine oP_ite (fun hb => ?_) (fun hb => ?_)
              · exact f_g6
              · exact f_g6
            · refine oP_dl ?_
              refine oP_let fun p5 e_p5 => ?_
              refine oP_let fun g6 e => ?_
              have f_g6 : fO (qG g0) g0 g6 := by rw [e, e_p5]; exact fO_g f_g5 fn155_o
              clear e
              refine oP_ite (fun hb => ?_) (fun hb => ?_)
              · exact f_g6
              · exact f_g6
          · refine oP_let fun p4 e_p4 => ?_
            refine oP_let fun g5 e => ?_
            have f_g5 : fO (qG g0) g0 g5 := by rw [e, e_p4]; exact fO_tr f_g4 fn105_o
            clear e
            refine oP_dl ?_
            refine oP_let fun p5 e_p5 => ?_
            refine oP_let fun g6 e => ?_
            have f_g6 : fO (qG g0) g0 g6 := by rw [e, e_p5]; exact fO_g f_g5 fn155_o
            clear e
            exact f_g6
        · exact f_g3
      · refine oP_let fun p2 e_p2 => ?_
        refine oP_let fun g3 e => ?_
        have f_g3 : fO (qG g0) g0 g3 := by rw [e, e_p2]; exact fO_tr f_g2 fn105_o
        clear e
        refine oP_ite (fun hb => ?_) (fun hb => ?_)
        · refine oP_let fun p3 e_p3 => ?_
          refine oP_let fun g4 e => ?_
          have f_g4 : fO (qG g0) g0 g4 := by rw [e, e_p3]; exact fO_tr f_g3 fn115_o
          clear e
          refine oP_ite (fun hb => ?_) (fun hb => ?_)
          · refine oP_let fun p4 e_p4 => ?_
            refine oP_let fun g5 e => ?_
            have f_g5 : fO (qG g0) g0 g5 := by rw [e, e_p4]; exact fO_tr f_g4 fn114_o
            clear e
            refine oP_ite (fun hb => ?_) (fun hb => ?_)
            · refine oP_dl ?_
              refine oP_ite (fun hb => ?_) (fun hb => ?_)
              · refine oP_let fun p5 e_p5 => ?_
                refine oP_let fun g6 e => ?_
                have f_g6 : fO (qG g0) g0 g6 := by rw [e, e_p5]; exact fO_g f_g5 fn103_o
                clear e
                refine oP_dl ?_
                refine oP_let fun p6 e_p6 => ?_
                refine oP_let fun g7 e => ?_
                have f_g7 : fO (qG g0) g0 g7 := by rw [e, e_p6]; exact fO_tr f_g6 fn135_o
                clear e
                refine oP_ite (fun hb => ?_) (fun hb => ?_)
                · refine oP_let fun p7 e_p7 => ?_
                  refine oP_let fun g8 e => ?_
                  have f_g8 : fO (qG g0) g0 g8 := by rw [e, e_p7]; exact fO_g f_g7 fn154_o
                  clear e
                  refine oP_ite (fun hb => ?_) (fun hb => ?_)
                  · refine oP_let fun p8 e_p8 => ?_
                    refine oP_let fun g9 e => ?_
                    have f_g9 : fO (qG g0) g0 g9 := by rw [e, e_p8]; exact fO_tr f_g8 fn139_o
                    clear e
                    refine oP_ite (fun hb => ?_) (fun hb => ?_)
                    · exact f_g9
                    · exact f_g9
                  · exact f_g8
                · exact f_g7
              · refine oP_let fun p5 e_p5 => ?_
                refine oP_let fun g6 e => ?_
                have f_g6 : fO (qG g0) g0 g6 := by rw [e, e_p5]; exact fO_g f_g5 fn145_o
                clear e
                refine oP_ite (fun hb => ?_) (fun hb => ?_)
                · exact f_g6
                · exact f_g6
            · refine oP_let fun p5 e_p5 => ?_
              refine oP_let fun g6 e => ?_
              have f_g6 : fO (qG g0) g0 g6 := by rw [e, e_p5]; exact fO_g f_g5 fn103_o
              clear e
              refine oP_dl ?_
              refine oP_let fun p6 e_p6 => ?_
              refine oP_let fun g7 e => ?_
              have f_g7 : fO (qG g0) g0 g7 := by rw [e, e_p6]; exact fO_tr f_g6 fn135_o
              clear e
              refine oP_ite (fun hb => ?_) (fun hb => ?_)
              · refine oP_let fun p7 e_p7 => ?_
                refine oP_let fun g8 e => ?_
                have f_g8 : fO (qG g0) g0 g8 := by rw [e, e_p7]; exact fO_g f_g7 fn154_o
                clear e
                exact f_g8
              · exact f_g7
          · exact f_g4
        · refine oP_let fun p3 e_p3 => ?_
          refine oP_let fun g4 e => ?_
          have f_g4 : fO (qG g0) g0 g4 := by rw [e, e_p3]; exact fO_tr f_g3 fn107_o
          clear e
          refine oP_ite (fun hb => ?_) (fun hb => ?_)
          · refine oP_let fun p4 e_p4 => ?_
            refine oP_let fun g5 e => ?_
            have f_g5 : fO (qG g0) g0 g5 := by rw [e, e_p4]; exact fO_tr f_g4 fn116_o
            clear e
            refine oP_ite (fun hb => ?_) (fun hb => ?_)
            · refine oP_let fun p5 e_p5 => ?_
              refine oP_let fun g6 e => ?_
              have f_g6 : fO (qG g0) g0 g6 := by rw [e, e_p5]; exact fO_g f_g5 fn103_o
              clear e
              refine oP_dl ?_
              refine oP_let fun p6 e_p6 => ?_
              refine oP_let fun g7 e => ?_
              have f_g7 : fO (qG g0) g0 g7 := by rw [e, e_p6]; exact fO_tr f_g6 fn104_o
              clear e
              refine oP_let fun p7 e_p7 => ?_
              refine oP_let fun g8 e => ?_
              have f_g8 : fO (qG g0) g0 g8 := by rw [e, e_p7]; exact fO_g f_g7 fn154_o
              clear e
              refine oP_ite (fun hb => ?_) (fun hb => ?_)
              · refine oP_let fun p8 e_p8 => ?_
                refine oP_let fun g9 e => ?_
                have f_g9 : fO (qG g0) g0 g9 := by rw [e, e_p8]; exact fO_tr f_g8 fn139_o
                clear e
                refine oP_ite (fun hb => ?_) (fun hb => ?_)
                · exact f_g9
                · exact f_g9
              · exact f_g8
            · exact f_g5
          · refine oP_ite (fun hb => ?_) (fun hb => ?_)
            · refine oP_let fun p4 e_p4 => ?_
              refine oP_let fun g5 e => ?_
              have f_g5 : fO (qG g0) g0 g5 := by rw [e, e_p4]; exact fO_tr f_g4 fn116_o
              clear e
              refine oP_ite (fun hb => ?_) (fun hb => ?_)
              · refine oP_let fun p5 e_p5 => ?_
                refine oP_let fun g6 e => ?_
                have f_g6 : fO (qG g0) g0 g6 := by rw [e, e_p5]; exact fO_g f_g5 fn103_o
                clear e
                refine oP_dl ?_
                refine oP_let fun p6 e_p6 => ?_
                refine oP_let fun g7 e => ?_
                have f_g7 : fO (qG g0) g0 g7 := by rw [e, e_p6]; exact fO_tr f_g6 fn104_o
                clear e
                refine oP_let fun p7 e_p7 => ?_
                refine oP_let fun g8 e => ?_
                have f_g8 : fO (qG g0) g0 g8 := by rw [e, e_p7]; exact fO_g f_g7 fn154_o
                clear e
                refine oP_ite (fun hb => ?_) (fun hb => ?_)
                · refine oP_let fun p8 e_p8 => ?_
                  refine oP_let fun g9 e => ?_
                  have f_g9 : fO (qG g0) g0 g9 := by rw [e, e_p8]; exact fO_tr f_g8 fn139_o
                  clear e
                  refine oP_ite (fun hb => ?_) (fun hb => ?_)
                  · exact f_g9
                  · exact f_g9
                · exact f_g8
              · exact f_g5
            · refine oP_let fun p4 e_p4 => ?_
              refine oP_let fun g5 e => ?_
              have f_g5 : fO (qG g0) g0 g5 := by rw [e, e_p4]; exact fO_tr f_g4 fn109_o
              clear e
              exact f_g5
    · refine oP_let fun g2 e => ?_
      have f_g2 : fO (qG g0) g0 g2 := by rw [e]; exact fO_2 f_g1 (by decide)
      clear e
      refine oP_let fun p2 e_p2 => ?_
      refine oP_let fun g3 e => ?_
      have f_g3 : fO (qG g0) g0 g3 := by rw [e, e_p2]; exact fO_tr f_g2 fn114_o
      clear e
      refine oP_ite (fun hb => ?_) (fun hb => ?_)
      · refine oP_dl ?_
        refine oP_dl ?_
        refine oP_let fun p3 e_p3 => ?_
        refine oP_let fun g4 e => ?_
        have f_g4 : fO (qG g0) g0 g4 := by rw [e, e_p3]; exact fO_tr f_g3 fn105_o
        clear e
        refine oP_ite (fun hb => ?_) (fun hb => ?_)
        · refine oP_let fun p4 e_p4 => ?_
          refine oP_let fun g5 e => ?_
          have f_g5 : fO (qG g0) g0 g5 := by rw [e, e_p4]; exact fO_tr f_g4 fn115_o
          clear e
          refine oP_ite (fun hb => ?_) (fun hb => ?_)
          · refine oP_let fun p5 e_p5 => ?_
            refine oP_let fun g6 e => ?_
            have f_g6 : fO (qG g0) g0 g6 := by rw [e, e_p5]; exact fO_g f_g5 fn145_o
            clear e
            refine oP_ite (fun hb => ?_) (fun hb => ?_)
            · exact f_g6
            · exact f_g6
          · exact f_g5
        · refine oP_let fun p4 e_p4 => ?_
          refine oP_let fun g5 e => ?_
          have f_g5 : fO (qG g0) g0 g5 := by rw [e, e_p4]; exact fO_tr f_g4 fn109_o
          clear e
          exact f_g5
      · refine oP_dl ?_
        refine oP_let fun p3 e_p3 => ?_
        refine oP_let fun g4 e => ?_
        have f_g4 : fO (qG g0) g0 g4 := by rw [e, e_p3]; exact fO_tr f_g3 fn105_o
        clear e
        refine oP_let fun p4 e_p4 => ?_
        refine oP_let fun g5 e => ?_
        have f_g5 : fO (qG g0) g0 g5 := by rw [e, e_p4]; exact fO_tr f_g4 fn109_o
        clear e
        exact f_g5
  · refine oP_dl ?_
    refine oP_let fun p1 e_p1 => ?_
    refine oP_let fun g2 e => ?_
    have f_g2 : fO (qG g0) g0 g2 := by rw [e, e_p1]; exact fO_tr f_g1 fn106_o
    clear e
    refine oP_let fun p2 e_p2 => ?_
    refine oP_let fun g3 e => ?_
    have f_g3 : fO (qG g0) g0 g3 := by rw [e, e_p2]; exact fO_tr f_g2 fn105_o
    clear e
    refine oP_let fun p3 e_p3 => ?_
    refine oP_let fun g4 e => ?_
    have f_g4 : fO (qG g0) g0 g4 := by rw [e, e_p3]; exact fO_tr f_g3 fn107_o
    clear e
    refine oP_let fun p4 e_p4 => ?_
    refine oP_let fun g5 e => ?_
    have f_g5 : fO (qG g0) g0 g5 := by rw [e, e_p4]; exact fO_tr f_g4 fn109_o
    clear e
    exact f_g5
