/-! ===== removeRule by hand, with what it does ===== -/
noncomputable def zUt (sc : Bool) (mx : List Nat) (W : List rGr) (T : List rIT) (own : rI) (J : List rI) (Bd : rBd) (stop : Nat → Bool) : Nat → Nat → rS → List zLg → Option (List zNx)
  | 0, _, _, _ => none
  | n + 1, pc, σ, L => (match zSp sc mx W T own J Bd σ L pc with
    | some l => aAll (l.map (fun q => if q.1 = 0 then (if Nat.ble σ.1.length q.2.2.1.1.length = true ∧ Nat.ble σ.2.2.2.2.1.length q.2.2.1.2.2.2.2.1.length = true ∧ q.2.2.2.1.all (zLgb q.2.2.1.1.length q.2.2.1.2.2.2.2.1.length) = true then (if stop q.2.1 = true then some [q] else zUt sc mx W T own J Bd stop n q.2.1 q.2.2.1 q.2.2.2.1) else none) else none))
    | none => none)
section ZUt
variable {p : Program} {l : Launch} {e : Env} {R0 : Room} {s : State} {m : MethodId} {args : Array Value} {below : List Frame} {meth : Method} {c : Code} {K9 N9 : Nat}
variable {cc : ByteArray} {nL : Nat} {Ts : List Cond} {own : String} {D : va_G} {dA : Nat → ClassId} {cl : List vw_C} {tA : List (Nat × FieldType)} {tyf : Nat → Nat → FieldType} {B : Nat}
variable {W : List rGr} {T : List rIT} {A : rA} {b : aSc}
variable {kc9 kn9 : Nat} {own9 : rI} {ρ0 : Nat → Int} {γ0 : Nat → rHp} {xn : List String} {nw : List Cond} {nc : List (String × String)} {ao : List String} {W0 : List Cond} {mth : List aMd} {mx : List Nat} {J : List rI}
variable {Bd : rBd} {stop : Nat → Bool} {S : Nat → zSpc} {S9 : zSpc}
theorem zUt_ok (C : xCx p s m args c cc nL Ts own D dA cl tA tyf B) (hE : xEnv D dA cl tA B nw nc ao s) (hlocks : meth.locks = false) (hRm : rRmo own9 R0 K9 N9 kc9 kn9) (hl0 : l.stackTraces = false) (hJ : ∀ (n : Nat) (I : rI), J[n]? = some I → ∀ d : aMd, mth[I.1]? = some d → zMt D dA cl tA B nw nc ao W0 l W T A b xn d.1 (aCw d) (S n) I) (hBg : aBg own Ts cl tA tyf [] nw nc W0 mth mx xn b meth s c cc nL Bd.1) (hCp : ∀ x ∈ Bd.2.2.2, xCpy own Ts x) (hKt : ∀ g ∈ W, 1000 ≤ g.1 → ∃ ty, (g.1, ty) ∈ tA) (hI : rInj W A) {xs : Nat → Int32} {sc : Bool} (hX : sc = true → (va_X b.1 b.2.1 xs s s.heap ∧ b.1 < s.heap.size ∧ ¬ B ≤ b.1) ∧ ∀ j : Nat, j < b.2.1 → γ0 0 (W.length - 1) 0 (j : Int) = (xs j).toInt) :
    ∀ (n pc : Nat) (σ : rS) (Lg : List zLg) (ρ : Nat → Int) (γ : Nat → rHp) (lv : List (Nat × Value)) (st : List Value) (h : xH) (L : List zNx), zUt sc mx W T own9 J Bd stop n pc σ Lg = some L → rSt W T B A b own9.2.2.2.1 ρ γ σ lv st h → ((∀ k, k < own9.2.2.1.1.length → ρ k = ρ0 k) ∧ γ 0 = γ0 0) → own9.2.2.1.1.length ≤ σ.1.length → zLgs S ρ γ Lg → Lg.all (zLgb σ.1.length σ.2.2.2.2.1.length) = true →
      (∀ q ∈ L, ∀ (ρ_q : Nat → Int) (γ_q : Nat → rHp) (lv_q : List (Nat × Value)) (st_q : List Value) (h_q : xH), rSm0 σ ρ ρ_q γ γ_q → rSt W T B A b own9.2.2.2.1 ρ_q γ_q q.2.2.1 lv_q st_q h_q → xSafe p l e R0 s m args below meth c nL D dA cl tA B (yEnd below args s D dA cl tA B (zQs W T B A b ρ0 γ0 S9 own9) (zXs W T B A b ρ0 γ0 xn S9 own9) kc9 kn9 R0.cells R0.slots) q.2.1 lv_q st_q h_q (q.2.2.1.2.2.2.2.2.2.1 + K9) (q.2.2.1.2.2.2.2.2.2.2 + N9)) →
      xSafe p l e R0 s m args below meth c nL D dA cl tA B (yEnd below args s D dA cl tA B (zQs W T B A b ρ0 γ0 S9 own9) (zXs W T B A b ρ0 γ0 xn S9 own9) kc9 kn9 R0.cells R0.slots) pc lv st h (σ.2.2.2.2.2.2.1 + K9) (σ.2.2.2.2.2.2.2 + N9) := by
  intro n
  induction n with
  | zero => intro pc σ Lg ρ γ lv st h L h1; cases h1
  | succ n ih =>
    intro pc σ Lg ρ γ lv st h L h1 hA hs hm hLg hLw kk
    unfold zUt at h1
    split at h1
    · rename_i l1 hl1
      refine zSp_ok C hE hlocks hRm hl0 hJ hBg hCp hKt hI hX hA hs hm hLg hLw hl1 ?_ ?_
      · intro q hq q0 ρ_q γ_q lv_q st_q h_q g1 g3 gL
        obtain ⟨x, h2, h3⟩ := aAll_in h1 _ (List.mem_map.mpr ⟨q, hq, rfl⟩)
        rw [if_pos q0] at h2
        split at h2
        · rename_i hb
          have hb1 := Nat.le_of_ble_eq_true hb.1
          have hb2 := Nat.le_of_ble_eq_true hb.2.1
          split at h2
          · cases h2
            exact kk q (h3 q List.mem_cons_self) ρ_q γ_q lv_q st_q h_q g1 g3
          · refine ih q.2.1 q.2.2.1 q.2.2.2.1 ρ_q γ_q lv_q st_q h_q x h2 g3 ⟨fun k hk => (g1.1 k (by omega)).trans (hs.1 k hk), (g1.2 0 (Nat.zero_le _)).trans hs.2⟩ (by omega) gL hb.2.2 (fun z hz ρ2 γ2 lv2 st2 h9 f1 f2 => kk z (h3 z hz) ρ2 γ2 lv2 st2 h9 ⟨fun k hk => (f1.1 k (by omega)).trans (g1.1 k hk), fun k hk => (f1.2 k (by omega)).trans (g1.2 k hk)⟩ f2)
        · cases h2
      · intro q hq q1
        obtain ⟨x, h2, h3⟩ := aAll_in h1 _ (List.mem_map.mpr ⟨q, hq, rfl⟩)
        rw [if_neg (by rw [q1]; decide)] at h2
        cases h2
    · cases h1
end ZUt
/-- a run's places and states, without the log -/
noncomputable def zUp (o : Option (List zNx)) : Option (List (Nat × rS)) := o.map (fun l => l.map (fun q => (q.2.1, q.2.2.1)))
theorem zUp_at {o : Option (List zNx)} {L : List (Nat × rS)} (h : zUp o = some L) : ∃ l, o = some l ∧ ∀ q ∈ l, (q.2.1, q.2.2.1) ∈ L := by
  cases o with
  | none => cases h
  | some l =>
    refine ⟨l, rfl, fun q hq => ?_⟩
    have h : some (l.map (fun q : zNx => (q.2.1, q.2.2.1))) = some L := h
    rw [← Option.some.inj h]
    exact List.mem_map.mpr ⟨q, hq, rfl⟩
set_option maxRecDepth 100000 in
theorem hA_zk : zUp (zUt false uMx uW uT w168_ (uJL.take 168) hB_ (fun pc => Nat.beq pc 8) 20 0 (rEnt w168_) []) = some [(8, hSA_)] := @of_decide_eq_true _ (dqU _ _) (by decide +kernel)
set_option maxRecDepth 100000 in
theorem hB_zk : zUp (zUt false uMx uW uT w168_ (uJL.take 168) hB_ (fun pc => Nat.beq pc 8 || Nat.beq pc 38) 40 8 hP_ []) = some [(38, hSX_), (8, hSB_)] := @of_decide_eq_true _ (dqU _ _) (by decide +kernel)
set_option maxRecDepth 100000 in
theorem hD_zk : zUp (zUt false uMx uW uT w168_ (uJL.take 168) hB_ (fun pc => Nat.beq pc 58) 40 38 hSX_ []) = some [(58, hSD_)] := @of_decide_eq_true _ (dqU _ _) (by decide +kernel)
section S44
variable {D : va_G} {dA : Nat → ClassId} {B : Nat} {l : Launch} {A : rA} {b : aSc}
theorem zHand (hl0 : l.stackTraces = false) (hL : b.2.1 < 2147483648) (hI : rInj uW A) (ih : ∀ m, m < 168 → ∀ (I : rI), uJL[m]? = some I → ∀ d : aMd, tMth[I.1]? = some d → rMt D dA vwCl tTA B tNw tNc tAo tW0 l uW uT A b tXn d.1 (aCw d) I) :
    ∀ (I : rI), uJL[168]? = some I → ∀ d : aMd, tMth[I.1]? = some d → zMt D dA vwCl tTA B tNw tNc tAo tW0 l uW uT A b tXn d.1 (aCw d) sn168 I := by
  intro I hI2 d hd
  have hI3 : uJL[168]? = some w168_ := rfl
  cases hI3.symm.trans hI2
  have hd2 : tMth[146]? = some d146_ := rfl
  have hd3 : tMth[146]? = some d := hd
  cases hd2.symm.trans hd3
  obtain ⟨g1, g2, g3⟩ := tSg tKt_nil 146 d146_ v146_ hd2 rfl
  have hJ9 : ∀ (n : Nat) (I : rI), (uJL.take 168)[n]? = some I → ∀ d : aMd, tMth[I.1]? = some d → rMt D dA vwCl tTA B tNw tNc tAo tW0 l uW uT A b tXn d.1 (aCw d) I := by
    intro n I hn
    have hlt : n < 168 := by
      have := (List.getElem?_eq_some_iff.mp hn).1
      simp at this
      omega
    rw [List.getElem?_take_of_lt hlt] at hn
    exact ih n hlt I hn
  intro ρ γ av h hA
  have hA_q : rSt uW uT B A b w168_.2.2.2.1 ρ γ (rEnt w168_) (lv_args 0 av) [] h := ⟨hA.1, (fun q hq => by
    obtain ⟨x, h1, h2, -⟩ := rArgs_ok hA.2.2.1 q hq
    exact ⟨x, h1, h2⟩), trivial, hA.2.2.2⟩
  have hav : (lg_sl av).length ≤ d146_.2.2.1 := by
    rw [rSl_len hA.2.2.1]
    decide +kernel
  have hT : ∀ cw, xTab vwCl tTA tTy (cw :: tW0) := fun cw => ⟨fun ci r hr => by
    obtain ⟨g1, g2, g3⟩ := tTab.1 ci r hr
    exact ⟨g1, fun w hw => List.mem_cons_of_mem _ (g2 w hw), g3⟩, tTab.2⟩
  unfold aCw
  rw [if_pos (show d146_.2.2.2.2 = [] from rfl)]
  refine yMet_of (tyf := tTy) g2 (hT _) hav (fun p e s m args below meth c C hE hlocks hr hn hnt => ?_)
  have hx : c.exceptionTable.toList = tableOf d146_.2.2.2.2 := by
    cases hc : c.exceptionTable.toList with
    | nil => rfl
    | cons z zs => exact (hnt z (by rw [hc]; exact List.mem_cons_self)).elim
  have hBg := aSg_bg (b := b) (Ts := Cond.code d146_.1 d146_.2.1 d146_.2.2.1 d146_.2.2.2.1 :: tW0) (fun w hw => List.mem_cons_of_mem _ hw) g1 hL hE hn hr hx
  have hdg : decode d146_.2.1 58 = .ok (.return_, 1) := hBg.2.1 (58, .return_, 1) (rF1_mem (k := 58) (v := (Instr.return_, 1)) rfl)
  -- the end
  have fin : ∀ (ρ4 : Nat → Int) (γ4 : Nat → rHp) (lv : List (Nat × Value)) (st : List Value) (h4 : xH), rSt uW uT B A b w168_.2.2.2.1 ρ4 γ4 hSD_ lv st h4 → ((∀ k, k < 3 → ρ4 k = ρ k) ∧ γ4 0 = γ 0) → hRel ρ4 γ4 →
      xSafe p l e (rIr w168_) s m args below meth c d146_.2.2.1 D dA vwCl tTA B (yEnd below args s D dA vwCl tTA B (zQs uW uT B A b ρ γ sn168 w168_) (zXs uW uT B A b ρ γ tXn sn168 w168_) w168_.2.1.2.2.2.2.1 w168_.2.1.2.2.2.2.2 (rIr w168_).cells (rIr w168_).slots) 58 lv st h4 0 0 := by
    intro ρ4 γ4 lv st h4 f1 f2 f3
    have hst : st = [] := by
      have := f1.2.2.1
      cases st with
      | nil => rfl
      | cons x xs => exact this.elim
    subst hst
    have f1_q : rSt uW uT B A b w168_.2.2.2.1 ρ4 γ4 hSE_ [] [] h4 := ⟨f1.1, (fun q hq => by cases hq), trivial, f1.2.2.2⟩
    obtain ⟨ρ9, a1, a2, a3, a4, a5, a6, a7, a8, a9, -⟩ := rMt0_ok f1_q hmD_ck
    have c1 := (rCk_ok a3 hcD_ck).1
    obtain ⟨⟨kR, kG, kC, kM, kRg, kI⟩, -, -, -⟩ := f1
    have r0 := kR 0
    have r1 := kR 1
    have r3 := kR 3
    have r0 : 0 ≤ ρ4 0 ∧ ρ4 0 ≤ 59 := r0
    have r1 : 0 ≤ ρ4 1 ∧ ρ4 1 ≤ 60 := r1
    have r3 : 0 ≤ ρ4 3 ∧ ρ4 3 ≤ 59 := r3
    have q0 := kG _ (List.mem_cons_self)
    have q1 := kG _ (List.mem_cons_of_mem _ List.mem_cons_self)
    have q2 := kG _ (List.mem_cons_of_mem _ (List.mem_cons_of_mem _ (List.mem_cons_of_mem _ List.mem_cons_self)))
    simp [rE, rSm] at q0 q1 q2
    have m0 := kM _ List.mem_cons_self
    have m1 := kM _ (List.mem_cons_of_mem _ List.mem_cons_self)
    have m0 : γ4 0 1 0 10 = ρ4 1 := by simpa [rE, rSm] using m0
    have m1 : γ4 0 40 0 (ρ4 0) = ρ4 2 := by simpa [rE, rSm] using m1
    obtain ⟨d1, d2, d3, -⟩ := kC
    have d1 : γ4 3 = rUp (γ4 2) 40 0 (ρ4 1 - 1) (ρ4 2) := by
      unfold rD1 at d1
      rw [if_pos (by rfl)] at d1
      have e1 : rE ρ4 ([(1, 1)], -1) = ρ4 1 - 1 := by simp [rE, rSm]; omega
      have e2 : rE ρ4 ([(2, 1)], 0) = ρ4 2 := hSy
      have e3 : rE ρ4 ([], 0) = 0 := by simp [rE, rSm]
      dsimp only at d1
      rw [e1, e2, e3] at d1
      exact d1
    have d2 : γ4 2 = rUp (γ4 1) 1 0 10 (ρ4 1 - 1) := by
      unfold rD1 at d2
      rw [if_pos (by rfl)] at d2
      have e1 : rE ρ4 ([(1, 1)], -1) = ρ4 1 - 1 := by simp [rE, rSm]; omega
      have e2 : rE ρ4 ([], 10) = 10 := by simp [rE, rSm]
      have e3 : rE ρ4 ([], 0) = 0 := by simp [rE, rSm]
      dsimp only at d2
      rw [e1, e2, e3] at d2
      exact d2
    have d3 : ∀ (G : Nat) (k j : Int), G ≠ 40 → γ4 1 G k j = γ4 0 G k j := by
      unfold rD1 at d3
      rw [if_neg (show ¬ (1 : Nat) = 0 by decide)] at d3
      intro G k j hG
      exact d3.1 G k j (fun hp => hG (hMod hp))
    have hinv : rIvs uT (γ4 3) [38, 39, 40, 41, 42, 43] := by
      have hu : ∀ G k j, G ≠ 40 → G ≠ 1 → γ4 3 G k j = γ4 0 G k j := fun G k j e1 e2 => by
        rw [d1, rUp_ne (fun q => e1 q.1), d2, rUp_ne (fun q => e2 q.1), d3 G k j e1]
      refine hRot (g := γ4 0) (g_q := γ4 3) (r := ρ4 0) (n := ρ4 1) r0.1 (by omega) r1.2 m0 ?_ (fun G k j hG => ?_) (fun j => ?_) (fun i hi => kI i hi)
      · rw [d1, rUp_ne (fun q => absurd q.1 (by decide)), d2]
        exact rUp_at
      · rcases hG with rfl | rfl
        · exact hu 9 k j (by decide) (by decide)
        · exact hu 10 k j (by decide) (by decide)
      · by_cases e : j = ρ4 1 - 1
        · rw [if_neg (by omega), if_pos e, m1, e, d1]
          exact rUp_at
        · have e1 : γ4 3 40 0 j = γ4 1 40 0 j := by
            rw [d1, rUp_ne (fun q => e q.2.2), d2, rUp_ne (fun q => absurd q.1 (by decide))]
          rw [e1, f3 0 j]
          by_cases e2 : ρ4 0 ≤ j ∧ j < ρ4 1 - 1
          · rw [if_pos e2, if_pos ⟨rfl, e2.1, by omega⟩]
          · rw [if_neg e2, if_neg e, if_neg (fun q => e2 ⟨q.2.1, by omega⟩)]
    refine ys_vret C hlocks hr (Nat.zero_le _) (Nat.zero_le _) ?_ hdg
    have hEx : w168_.2.2.2.2.1 = [w168_.2.2.2.2.1.headD hP_] := rfl
    refine ⟨w168_.2.2.2.2.1.headD hP_, by rw [hEx]; exact List.mem_cons_self, rVs ρ9 hsD_, rGv γ4 3 1, ?_, ?_, ?_, ?_⟩
    · intro k hk
      have hk : k < 3 := hk
      rw [← f2.1 k hk, ← a1 k (by show k < 4; omega)]
      rcases (show k = 0 ∨ k = 1 ∨ k = 2 by omega) with rfl | rfl | rfl
      · exact hSy
      · exact hSy
      · exact hSy
    · rw [← f2.2]
      simp only [rGv]
      rw [if_neg (by decide)]
    · obtain ⟨⟨b1, b2, b3, b4, b5, b6⟩, b7, b8, b9⟩ := c1
      refine ⟨⟨b1, b2, ⟨?_, trivial⟩, b4, b5, b6⟩, b7, b8, b9⟩
      have u := b3.1
      unfold rD1 at u ⊢
      rw [if_neg (show ¬ (1 : Nat) = 0 by decide)] at u ⊢
      refine ⟨u.1, ?_⟩
      have e1 : rGv γ4 3 1 1 = γ4 3 := by
        unfold rGv
        rw [if_pos rfl]
      show rIvs uT (rGv γ4 3 1 1) [38, 39, 40, 41, 42, 43]
      rw [e1]
      exact hinv
    · have e1 : rGv γ4 3 1 1 = γ4 3 := by
        unfold rGv
        rw [if_pos rfl]
      have key : γ4 3 = rUp (fun G k j => if G = 40 ∧ k = 0 ∧ ρ4 0 ≤ j ∧ j < ρ4 1 - 1 then γ4 0 40 0 (j + 1) else if G = 40 ∧ k = 0 ∧ j = ρ4 1 - 1 then γ4 0 40 0 (ρ4 0) else γ4 0 G k j) 1 0 10 (ρ4 1 - 1) := by
        funext G k j
        by_cases h1 : G = 1 ∧ k = 0 ∧ j = 10
        · obtain ⟨rfl, rfl, rfl⟩ := h1
          rw [rUp_at, d1, rUp_ne (fun q => absurd q.1 (by decide)), d2, rUp_at]
        · rw [rUp_ne h1]
          show γ4 3 G k j = (if G = 40 ∧ k = 0 ∧ ρ4 0 ≤ j ∧ j < ρ4 1 - 1 then γ4 0 40 0 (j + 1) else if G = 40 ∧ k = 0 ∧ j = ρ4 1 - 1 then γ4 0 40 0 (ρ4 0) else γ4 0 G k j)
          by_cases hG : G = 40
          · subst hG
            by_cases hk : k = 0
            · subst hk
              by_cases e : j = ρ4 1 - 1
              · rw [e, d1, rUp_at, if_neg (by omega), if_pos ⟨rfl, rfl, rfl⟩, m1]
              · rw [d1, rUp_ne (fun q => e q.2.2), d2, rUp_ne (fun q => absurd q.1 (by decide)), f3 0 j]
                by_cases e2 : ρ4 0 ≤ j ∧ j < ρ4 1 - 1
                · rw [if_pos ⟨rfl, e2.1, by omega⟩, if_pos ⟨rfl, rfl, e2⟩]
                · rw [if_neg (fun q => e2 ⟨q.2.1, by omega⟩), if_neg (fun q => e2 q.2.2), if_neg (fun q => e q.2.2)]
            · rw [d1, rUp_ne (fun q => hk q.2.1), d2, rUp_ne (fun q => absurd q.1 (by decide)), f3 k j, if_neg (fun q => hk q.1), if_neg (fun q => hk q.2.1), if_neg (fun q => hk q.2.1)]
          · rw [d1, rUp_ne (fun q => hG q.1), d2, rUp_ne h1, d3 G k j hG, if_neg (fun q => hG q.1), if_neg (fun q => hG q.1)]
      show sn168 (zAg 3 ρ) (γ 0) 0 (rE (rVs ρ9 hsD_) (rC 0)) (rGv γ4 3 1 1)
      have e0 : rE (rVs ρ9 hsD_) (rC 0) = 0 := by simp [rE, rSm, rC]
      rw [e1, e0, key, ← f2.2, ← m0]
      have ez : (zAg 3 ρ).getD 0 0 = ρ4 0 := (f2.1 0 (by decide)).symm
      unfold sn168
      rw [ez]
      rfl
  -- the loop
  have loop : ∀ (n : Nat) (ρ2 : Nat → Int) (γ2 : Nat → rHp) (lv : List (Nat × Value)) (st : List Value) (h2 : xH), rSt uW uT B A b w168_.2.2.2.1 ρ2 γ2 hP_ lv st h2 → ((∀ k, k < 3 → ρ2 k = ρ k) ∧ γ2 0 = γ 0) → hRel ρ2 γ2 → ρ2 1 - ρ2 3 < (n : Int) →
      xSafe p l e (rIr w168_) s m args below meth c d146_.2.2.1 D dA vwCl tTA B (yEnd below args s D dA vwCl tTA B (zQs uW uT B A b ρ γ sn168 w168_) (zXs uW uT B A b ρ γ tXn sn168 w168_) w168_.2.1.2.2.2.2.1 w168_.2.1.2.2.2.2.2 (rIr w168_).cells (rIr w168_).slots) 8 lv st h2 0 0 := by
    intro n
    induction n with
    | zero =>
      intro ρ2 γ2 lv st h2 g1 g2 g4 g5
      have q2 := g1.1.2.1 _ (List.mem_cons_of_mem _ (List.mem_cons_of_mem _ List.mem_cons_self))
      simp [rE, rSm] at q2
      omega
    | succ n ihn =>
      intro ρ2 γ2 lv st h2 g1 g2 g4 g5
      obtain ⟨lB, eB, mB⟩ := zUp_at hB_zk
      refine zUt_ok (K9 := 0) (N9 := 0) (xs := fun _ => 0) (sc := false) (Bd := hB_) (ρ0 := ρ) (γ0 := γ) (S9 := sn168) C hE hlocks (rRmo_self w168_) hl0 (J := uJL.take 168) (S := fun _ _ _ _ _ _ => True) (fun n I hn d hd => zMt_triv (fun _ _ _ _ _ => trivial) (hJ9 n I hn d hd)) hBg (fun x hx => by cases hx) uKt hI (fun q => by cases q) 40 8 hP_ [] ρ2 γ2 lv st h2 lB eB g1 g2 (by decide) (fun z hz => by cases hz) rfl (fun q hq ρ3 γ3 lv3 st3 h3 f1 f2 => ?_)
      have hq := mB q hq
      simp only [List.mem_cons, List.not_mem_nil, or_false] at hq
      have hs3 : (∀ k, k < 3 → ρ3 k = ρ k) ∧ γ3 0 = γ 0 := ⟨fun k hk => (f1.1 k (by show k < 4; omega)).trans (g2.1 k hk), (f1.2 0 (Nat.zero_le _)).trans g2.2⟩
      have hrel3 : hRel ρ3 γ3 := by
        intro k j
        rw [f1.2 1 (Nat.le_refl 1), f1.2 0 (Nat.zero_le _), f1.1 0 (by decide), f1.1 3 (by decide)]
        exact g4 k j
      obtain ⟨q0, q1, q2, q3, q4⟩ := q
      rcases hq with hq | hq
      · obtain ⟨hq1, hq2⟩ := Prod.mk.inj hq
        subst hq1
        subst hq2
        have f2 : rSt uW uT B A b w168_.2.2.2.1 ρ3 γ3 hSX_ lv3 st3 h3 := f2
        obtain ⟨lD, eD, mD⟩ := zUp_at hD_zk
        refine zUt_ok (K9 := 0) (N9 := 0) (xs := fun _ => 0) (sc := false) (Bd := hB_) (ρ0 := ρ) (γ0 := γ) (S9 := sn168) C hE hlocks (rRmo_self w168_) hl0 (J := uJL.take 168) (S := fun _ _ _ _ _ _ => True) (fun n I hn d hd => zMt_triv (fun _ _ _ _ _ => trivial) (hJ9 n I hn d hd)) hBg (fun x hx => by cases hx) uKt hI (fun q => by cases q) 40 38 hSX_ [] ρ3 γ3 lv3 st3 h3 lD eD f2 hs3 (by decide) (fun z hz => by cases hz) rfl (fun q hq ρ4 γ4 lv4 st4 h4 e1 e2 => ?_)
        have hq := mD q hq
        simp only [List.mem_cons, List.not_mem_nil, or_false] at hq
        obtain ⟨y0, y1, y2, y3, y4⟩ := q
        obtain ⟨hq1, hq2⟩ := Prod.mk.inj hq
        subst hq1
        subst hq2
        refine fin ρ4 γ4 lv4 st4 h4 e2 ⟨fun k hk => (e1.1 k (by show k < 4; omega)).trans (hs3.1 k hk), (e1.2 0 (Nat.zero_le _)).trans hs3.2⟩ ?_
        intro k j
        rw [e1.2 1 (Nat.le_refl 1), e1.2 0 (Nat.zero_le _), e1.1 0 (by decide), e1.1 3 (by decide)]
        exact hrel3 k j
      · obtain ⟨hq1, hq2⟩ := Prod.mk.inj hq
        subst hq1
        subst hq2
        have f2 : rSt uW uT B A b w168_.2.2.2.1 ρ3 γ3 hSB_ lv3 st3 h3 := f2
        obtain ⟨ρ9, a1, a2, a3, a4, a5, a6, a7, a8, a9, -⟩ := rMt0_ok f2 hmB_ck
        have c1 := (rCk_ok a3 hcB_ck).1
        have kC := f2.1.2.2.1
        have kM := f2.1.2.2.2.1
        obtain ⟨d1, -, -⟩ := kC
        have d1 : γ3 2 = rUp (γ3 1) 40 0 (ρ3 3) (ρ3 4) := by
          unfold rD1 at d1
          rw [if_pos (by rfl)] at d1
          have e1 : rE ρ3 ([(3, 1)], 0) = ρ3 3 := hSy
          have e2 : rE ρ3 ([(4, 1)], 0) = ρ3 4 := hSy
          have e3 : rE ρ3 ([], 0) = 0 := by simp [rE, rSm]
          dsimp only at d1
          rw [e1, e2, e3] at d1
          exact d1
        have m2 := kM _ (List.mem_cons_of_mem _ (List.mem_cons_of_mem _ List.mem_cons_self))
        have m2 : γ3 1 40 0 (ρ3 3 + 1) = ρ3 4 := by
          have e1 : rE ρ3 ([(3, 1)], 1) = ρ3 3 + 1 := by simp [rE, rSm]; omega
          have e2 : rE ρ3 ([(4, 1)], 0) = ρ3 4 := hSy
          have e3 : rE ρ3 ([], 0) = 0 := by simp [rE, rSm]
          dsimp only at m2
          rw [e1, e2, e3] at m2
          exact m2
        have v0 : rVs ρ9 hsB_ 0 = ρ3 0 := by rw [← a1 0 (by decide)]; exact hSy
        have v1 : rVs ρ9 hsB_ 1 = ρ3 1 := by rw [← a1 1 (by decide)]; exact hSy
        have v2 : rVs ρ9 hsB_ 2 = ρ3 2 := by rw [← a1 2 (by decide)]; exact hSy
        have v3 : rVs ρ9 hsB_ 3 = ρ3 3 + 1 := by
          rw [← a1 3 (by decide)]
          show rE ρ9 ([(3, 1)], 1) = _
          simp [rE, rSm]
          omega
        have w0 : rGv γ3 2 1 0 = γ3 0 := by
          simp only [rGv]
          rw [if_neg (by decide)]
        have w1 : rGv γ3 2 1 1 = γ3 2 := by
          unfold rGv
          rw [if_pos rfl]
        have rr := f2.1.1 0
        have rr : 0 ≤ ρ3 0 ∧ ρ3 0 ≤ 59 := rr
        have q3 := f2.1.2.1 _ (List.mem_cons_of_mem _ (List.mem_cons_of_mem _ List.mem_cons_self))
        simp [rE, rSm] at q3
        refine ihn (rVs ρ9 hsB_) (rGv γ3 2 1) lv3 st3 h3 c1 ⟨fun k hk => ?_, by rw [w0]; exact hs3.2⟩ ?_ ?_
        · rw [← hs3.1 k hk]
          rcases (show k = 0 ∨ k = 1 ∨ k = 2 by omega) with rfl | rfl | rfl
          · exact v0
          · exact v1
          · exact v2
        · intro k j
          rw [w0, w1, v0, v3, d1]
          by_cases e : k = 0 ∧ j = ρ3 3
          · obtain ⟨rfl, rfl⟩ := e
            rw [if_pos ⟨rfl, by omega, by omega⟩, rUp_at, ← m2, hrel3 0 (ρ3 3 + 1), if_neg (by omega)]
          · rw [rUp_ne (fun q => e ⟨q.2.1, q.2.2⟩), hrel3 k j]
            by_cases e2 : k = 0 ∧ ρ3 0 ≤ j ∧ j < ρ3 3
            · rw [if_pos e2, if_pos ⟨e2.1, e2.2.1, by omega⟩]
            · rw [if_neg e2, if_neg (fun q => e2 ⟨q.1, q.2.1, by
                have : j ≠ ρ3 3 := fun q2 => e ⟨q.1, q2⟩
                omega⟩)]
        · rw [v1, v3]
          have := f1.1 1 (by decide)
          have := f1.1 3 (by decide)
          omega
  obtain ⟨lA, eA, mA⟩ := zUp_at hA_zk
  refine zUt_ok (K9 := 0) (N9 := 0) (xs := fun _ => 0) (sc := false) (Bd := hB_) (ρ0 := ρ) (γ0 := γ) (S9 := sn168) C hE hlocks (rRmo_self w168_) hl0 (J := uJL.take 168) (S := fun _ _ _ _ _ _ => True) (fun n I hn d hd => zMt_triv (fun _ _ _ _ _ => trivial) (hJ9 n I hn d hd)) hBg (fun x hx => by cases hx) uKt hI (fun q => by cases q) 20 0 (rEnt w168_) [] ρ γ _ [] h lA eA hA_q ⟨fun _ _ => rfl, rfl⟩ (Nat.le_refl _) (fun z hz => by cases hz) rfl (fun q hq ρ1 γ1 lv1 st1 h1 f1 f2 => ?_)
  have hq := mA q hq
  simp only [List.mem_cons, List.not_mem_nil, or_false] at hq
  obtain ⟨y0, y1, y2, y3, y4⟩ := q
  obtain ⟨hq1, hq2⟩ := Prod.mk.inj hq
  subst hq1
  subst hq2
  have f2 : rSt uW uT B A b w168_.2.2.2.1 ρ1 γ1 hSA_ lv1 st1 h1 := f2
  obtain ⟨ρ9, a1, a2, a3, a4, a5, a6, a7, a8, a9, -⟩ := rMt0_ok f2 hmA_ck
  have c1 := (rCk_ok a3 hcA_ck).1
  obtain ⟨d1, -⟩ := f2.1.2.2.1
  have d1 : ∀ (G : Nat) (k j : Int), γ1 1 G k j = γ1 0 G k j := by
    unfold rD1 at d1
    rw [if_neg (show ¬ (1 : Nat) = 0 by decide)] at d1
    intro G k j
    refine d1.1 G k j ?_
    rintro (⟨h1, n, h2, h3, h4⟩ | ⟨h1, h2⟩)
    · have h4 : Nat.testBit 0 (128 * G + n) = true := h4
      rw [Nat.zero_testBit] at h4
      cases h4
    · have h2 : Nat.testBit 0 (2048 + G) = true := h2
      rw [Nat.zero_testBit] at h2
      cases h2
  have v0 : rVs ρ9 hsA_ 0 = ρ1 0 := by rw [← a1 0 (by decide)]; exact hSy
  have v1 : rVs ρ9 hsA_ 1 = ρ1 1 := by rw [← a1 1 (by decide)]; exact hSy
  have v2 : rVs ρ9 hsA_ 2 = ρ1 2 := by rw [← a1 2 (by decide)]; exact hSy
  have v3 : rVs ρ9 hsA_ 3 = ρ1 0 := by rw [← a1 0 (by decide)]; exact hSy
  have w0 : rGv γ1 1 1 0 = γ1 0 := by
    simp only [rGv]
    rw [if_neg (by decide)]
  have w1 : rGv γ1 1 1 1 = γ1 1 := by
    unfold rGv
    rw [if_pos rfl]
  refine loop 100 (rVs ρ9 hsA_) (rGv γ1 1 1) lv1 st1 h1 c1 ⟨fun k hk => ?_, by rw [w0]; exact f1.2 0 (Nat.zero_le _)⟩ (fun k j => ?_) ?_
  · rw [← f1.1 k (by show k < 3; exact hk)]
    rcases (show k = 0 ∨ k = 1 ∨ k = 2 by omega) with rfl | rfl | rfl
    · exact v0
    · exact v1
    · exact v2
  · rw [w0, w1, v0, v3, d1, if_neg (by omega)]
  · rw [v1, v3]
    have r0 : 0 ≤ ρ1 0 ∧ ρ1 0 ≤ 59 := f2.1.1 0
    have r1 : 0 ≤ ρ1 1 ∧ ρ1 1 ≤ 60 := f2.1.1 1
    omega
end S44
