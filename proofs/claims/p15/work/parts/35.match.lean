/-! ===== a state is as a pattern says ===== -/
noncomputable def rEq (R : aRg) (Γ : List rX) (x y : rX) : Bool := rCo (rXq x y) true (rZe R Γ 1 (rSb x y))
theorem rEq_ok {R : aRg} {Γ : List rX} {ρ : Nat → Int} (hR : aOkR R ρ) (hΓ : rFa ρ Γ) {x y : rX} (h : rEq R Γ x y = true) : rE ρ x = rE ρ y := by
  unfold rEq at h
  rw [rct] at h
  split at h
  · rename_i he
    rw [rXq_ok he]
  · have := rZe_ok hR hΓ h
    rw [rE_sb] at this
    omega
noncomputable def rVe (R : aRg) (Γ : List rX) (s : List rX) (v u : rV) : Bool := Nat.beq v.1 u.1 && (if v.1 < 3 ∨ v.1 = 7 then (Nat.beq v.2.1 u.2.1 || Nat.blt v.1 2 || Nat.beq v.1 7) && rEq R Γ (rSx s v.2.2) u.2.2 else true)
section XM
variable {W : List rGr} {T : List rIT} {B : Nat} {A : rA} {b : aSc} {i0 : List Nat} {ρ : Nat → Int} {γ : Nat → rHp} {R : aRg} {Γ : List rX} {ch : List rD} {M : List rMm}
theorem rVe_ok (hR : aOkR R ρ) (hΓ : rFa ρ Γ) {s : List rX} {v u : rV} {x : Value} (h : rVe R Γ s v u = true) (hx : rMv W A ρ b u x) : rMv W A (rVs ρ s) b v x := by
  obtain ⟨t, G, l⟩ := v
  obtain ⟨t2, G2, l2⟩ := u
  simp only [rVe, Bool.and_eq_true] at h
  have e := Nat.eq_of_beq_eq_true h.1
  subst e
  have key : t < 3 ∨ t = 7 → (G = G2 ∨ t ≠ 2) ∧ rE (rVs ρ s) l = rE ρ l2 := fun ht => by
    have h2 := h.2
    rw [if_pos ht] at h2
    simp only [Bool.and_eq_true, Bool.or_eq_true] at h2
    have := rEq_ok hR hΓ h2.2
    rw [rE_sx] at this
    refine ⟨?_, this⟩
    rcases h2.1 with (h3 | h3) | h3
    · exact Or.inl (Nat.eq_of_beq_eq_true h3)
    · have := (Nat.blt_eq).mp h3
      exact Or.inr (by omega)
    · have := Nat.eq_of_beq_eq_true h3
      exact Or.inr (by omega)
  unfold rMv at hx ⊢
  dsimp only at hx ⊢
  split at hx
  · obtain ⟨z, h1, h2⟩ := hx
    exact ⟨z, h1, by rw [(key (by decide)).2]; exact h2⟩
  · obtain ⟨z, h1, h2⟩ := hx
    exact ⟨z, h1, by rw [(key (by decide)).2]; exact h2⟩
  · obtain ⟨k1, k2⟩ := key (by decide)
    have k1 : G = G2 := k1.resolve_right (fun q => q rfl)
    subst k1
    rw [k2]
    exact hx
  · exact hx
  · exact ⟨hx.1, by rw [(key (by decide)).2]; exact hx.2⟩
  · exact hx
  · exact hx.elim
noncomputable def rgt (L : List (Nat × rV)) (ix : Nat) : Option rV := rF1 L ix
theorem rgt_mem {L : List (Nat × rV)} {ix : Nat} {v : rV} (h : rgt L ix = some v) : (ix, v) ∈ L := rF1_mem h
noncomputable def rVeL (R : aRg) (Γ : List rX) (s : List rX) : List rV → List rV → Bool
  | [], [] => true
  | v :: vs, u :: us => rVe R Γ s v u && rVeL R Γ s vs us
  | _, _ => false
theorem rVeL_ok (hR : aOkR R ρ) (hΓ : rFa ρ Γ) {s : List rX} : ∀ {V U : List rV} {st : List Value}, rVeL R Γ s V U = true → rStk W A ρ b U st → rStk W A (rVs ρ s) b V st
  | [], [], [], _, _ => trivial
  | v :: vs, u :: us, x :: xs, h, hs => by
    simp only [rVeL, Bool.and_eq_true] at h
    exact ⟨rVe_ok hR hΓ h.1 hs.1, rVeL_ok hR hΓ h.2 hs.2⟩
  | [], [], _ :: _, _, hs => hs.elim
  | _ :: _, _ :: _, [], _, hs => hs.elim
  | [], _ :: _, _, h, _ => by cases h
  | _ :: _, [], _, h, _ => by cases h
/-- the place's value, without a new number -/
noncomputable def rGk (R : aRg) (Γ : List rX) (ch : List rD) (M : List rMm) (G : Nat) (k j : rX) : Option rX := match rRd R Γ G k j ch with
  | .inr v => some v
  | .inl n => (match rLk n G k j M with | some v => some v | none => rLq R Γ n G k j M)
theorem rGk_ok (h : rK W T i0 ρ γ R Γ ch M) {G : Nat} {k j v : rX} (h1 : rGk R Γ ch M G k j = some v) : γ ch.length G (rE ρ k) (rE ρ j) = rE ρ v := by
  have hr := rRd_ok (G := G) (k := k) (j := j) h.1 h.2.1 h.2.2.1
  unfold rGk at h1
  split at h1
  · rename_i w hw
    cases h1
    rw [hw] at hr
    exact hr
  · rename_i n hn
    rw [hn] at hr
    split at h1
    · rename_i w hw
      cases h1
      exact hr.trans (h.2.2.2.1 _ (rLk_ok hw))
    · exact hr.trans (rLq_ok h.1 h.2.1 h.2.2.2.1 h1)
/-- what has changed may change -/
noncomputable def rIm (ms : Nat) (d : rD) : Bool := rCo (Nat.beq d.1 0) (rMb false ms d.2.1.1 d.2.1.2.2.1) (Nat.beq (Nat.land ms d.2.2.1) d.2.2.1)
theorem rIm_ok {ms : Nat} : ∀ {ch : List rD}, rCh T ρ γ ch → ch.all (rIm ms) = true → ∀ (G : Nat) (k j : Int), ¬ rMdP ms G j → γ ch.length G k j = γ 0 G k j
  | [], _, _, _, _, _, _ => rfl
  | d :: r, h, hw, G, k, j, hn => by
    simp only [List.all_cons, Bool.and_eq_true] at hw
    rw [← rIm_ok h.2 hw.2 G k j hn]
    have h1 := h.1
    have hw1 := hw.1
    unfold rD1 at h1
    unfold rIm at hw1
    rw [rcb] at hw1
    simp only [List.length_cons]
    by_cases e : d.1 = 0
    · rw [if_pos e] at h1 hw1
      rw [h1]
      refine rUp_ne ?_
      rintro ⟨e1, -, e3⟩
      apply hn
      rw [e1, e3]
      exact rMb_ok hw1
    · rw [if_neg e] at h1 hw1
      exact h1.1 G k j (fun hp => hn (rMdP_sub (Nat.eq_of_beq_eq_true hw1) hp))
/-- the line of a number: those below m are themselves -/
noncomputable def rLu (m : Nat) (θ : List (Nat × rX)) (d : Int) (k : Nat) : rX := rCo (Nat.ble (Nat.succ k) m) (rSy k) (@Option.rec rX (fun _ => rX) ([], d) (fun x => x) (rF1 θ k))
/-- the numbers_q lines -/
noncomputable def rTv (m : Nat) (θ : List (Nat × rX)) (R : aRg) : Nat → List rX := @List.rec (Int × Int) (fun _ => Nat → List rX) (fun _ => []) (fun q _ ih k => rLu m θ q.1 k :: ih (Nat.succ k)) R
theorem rTv_len {m : Nat} {θ : List (Nat × rX)} : ∀ {R : aRg} {k : Nat}, (rTv m θ R k).length = R.length
  | [], _ => rfl
  | _ :: r, k => by
    show (rTv m θ r (Nat.succ k)).length + 1 = r.length + 1
    rw [rTv_len]
noncomputable def rSt9 (m : Nat) (θ : List (Nat × rX)) (R : aRg) (l : List (Nat × Int)) : rX := @List.rec (Nat × Int) (fun _ => rX) ([], 0) (fun q _ ih => rAd (rMu q.2 (rLu m θ (rGg R q.1).1 q.1)) ih) l
noncomputable def rSxt (m : Nat) (θ : List (Nat × rX)) (R : aRg) (x : rX) : rX := rPl (rSt9 m θ R x.1) x.2
noncomputable def rTa (θ : List (Nat × rX)) (p x : rX) : List (Nat × rX) := match p with
  | ([(k, 1)], 0) => (match rF1 θ k with | some _ => θ | none => (k, x) :: θ)
  | _ => θ
noncomputable def rTaV (θ : List (Nat × rX)) (v u : rV) : List (Nat × rX) := if (v.1 < 3 ∨ v.1 = 7) ∧ (u.1 < 3 ∨ u.1 = 7) then rTa θ v.2.2 u.2.2 else θ
noncomputable def rTaL (θ : List (Nat × rX)) : List rV → List rV → List (Nat × rX)
  | v :: vs, u :: us => rTaL (rTaV θ v u) vs us
  | _, _ => θ
noncomputable def rTaQ (L : List (Nat × rV)) (θ : List (Nat × rX)) : List (Nat × rV) → List (Nat × rX)
  | [] => θ
  | q :: r => (match rgt L q.1 with | some u => rTaQ L (rTaV θ q.2 u) r | none => rTaQ L θ r)
noncomputable def rLs (L : List (Nat × rV)) (S : List rV) : List rX := L.map (fun q => q.2.2.2) ++ S.map (fun v => v.2.2)
/-- the lines, with the places_q values: reading may make new numbers -/
noncomputable def rMs (m : Nat) (W : List rGr) (Γ : List rX) (ch : List rD) (ex : List rX) (P : rS) (pv : Nat) : aRg → List rMm → List (Nat × rX) → List rMm → Option (List (Nat × rX) × aRg × List rMm)
  | R, M, θ, [] => some (θ, R, M)
  | R, M, θ, q :: r => if q.1 = pv then (match rGt W R Γ ch M (ex ++ θ.map (fun z => z.2)) 0 q.2.1 (rSxt m θ P.1 q.2.2.1) (rSxt m θ P.1 q.2.2.2.1) with
      | some z => rMs m W Γ ch ex P pv z.2.1 z.2.2 (rTa θ q.2.2.2.2 z.1) r
      | none => none) else rMs m W Γ ch ex P pv R M θ r
theorem rMs_ok {m : Nat} {P : rS} {pv : Nat} {ex : List rX} : ∀ {qs : List rMm} {ρ : Nat → Int} {R R_q : aRg} {M M_q : List rMm} {θ θ_q : List (Nat × rX)}, rK W T i0 ρ γ R Γ ch M → rMs m W Γ ch ex P pv R M θ qs = some (θ_q, R_q, M_q) →
    ∃ ρ_q, (∀ n, n < R.length → ρ_q n = ρ n) ∧ R.length ≤ R_q.length ∧ rK W T i0 ρ_q γ R_q Γ ch M_q ∧ ∀ x ∈ ex, rE ρ_q x = rE ρ x
  | [], ρ, R, R_q, M, M_q, θ, θ_q, h, h1 => by
    cases h1
    exact ⟨ρ, fun _ _ => rfl, Nat.le_refl _, h, fun _ _ => rfl⟩
  | q :: r, ρ, R, R_q, M, M_q, θ, θ_q, h, h1 => by
    unfold rMs at h1
    split at h1
    · split at h1
      · rename_i z hz
        obtain ⟨v, R1, M1⟩ := z
        obtain ⟨ρ1, a1, a2, a3, -, a5⟩ := rGt_ok h hz
        obtain ⟨ρ2, b1, b2, b3, b4⟩ := rMs_ok a3 h1
        exact ⟨ρ2, fun n hn => (b1 n (by omega)).trans (a1 n hn), by omega, b3, fun x hx => (b4 x hx).trans (a5 x (List.mem_append.mpr (Or.inl hx)))⟩
      · cases h1
    · exact rMs_ok h h1
/-- the pattern's places hold what it says: at pv the newest version, at 0 the first -/
noncomputable def rMc (R : aRg) (Γ : List rX) (ch : List rD) (M : List rMm) (s : List rX) (pv : Nat) (q : rMm) : Bool :=
  if q.1 = pv then (match rGk R Γ ch M q.2.1 (rSx s q.2.2.1) (rSx s q.2.2.2.1) with | some v => rEq R Γ v (rSx s q.2.2.2.2) | none => false)
  else Nat.beq q.1 0 && (match rLk 0 q.2.1 (rSx s q.2.2.1) (rSx s q.2.2.2.1) M with | some v => rEq R Γ v (rSx s q.2.2.2.2) | none => false)
/-- how the pattern's versions are the state's -/
noncomputable def rGv (γ : Nat → rHp) (n pv : Nat) : Nat → rHp := fun k => if k = pv then γ n else γ 0
noncomputable def rCk (W : List rGr) (T : List rIT) (j0 iP : List Nat) (σ P : rS) (s : List rX) (pv : Nat) : Bool :=
  rRs σ.1 σ.2.1 s P.1 && P.2.1.all (fun g => rPv σ.1 σ.2.1 3 (rSx s g)) && P.2.2.1.all (fun q => match rgt σ.2.2.1 q.1 with | some u => rVe σ.1 σ.2.1 s q.2 u | none => false) && rVeL σ.1 σ.2.1 s P.2.2.2.1 σ.2.2.2.1 &&
  P.2.2.2.2.2.1.all (rMc σ.1 σ.2.1 σ.2.2.2.2.1 σ.2.2.2.2.2.1 s pv) &&
  (match P.2.2.2.2.1 with
    | [] => Nat.beq pv 0 && iP.all (rHas W T j0 σ.1 σ.2.1 σ.2.2.2.2.1 σ.2.2.2.2.2.1)
    | [d] => Nat.beq pv 1 && !(Nat.beq d.1 0) && σ.2.2.2.2.1.all (rIm d.2.2.1) && d.2.2.2.all (rHas W T j0 σ.1 σ.2.1 σ.2.2.2.2.1 σ.2.2.2.2.2.1) && decide (iP = j0)
    | _ => false) && Nat.ble σ.2.2.2.2.2.2.1 P.2.2.2.2.2.2.1 && Nat.ble σ.2.2.2.2.2.2.2 P.2.2.2.2.2.2.2
theorem rOkR_of {s : List rX} {RP : aRg} (hR : aOkR R ρ) (hΓ : rFa ρ Γ) (h : rRs R Γ s RP = true) : aOkR RP (rVs ρ s) := by
  obtain ⟨l1, l2⟩ := rRs_ok hR hΓ h
  intro k
  unfold aG
  rw [List.getD_eq_getElem?_getD]
  cases e : RP[k]? with
  | some q => exact l2 k q e
  | none =>
    have : rVs ρ s k = 0 := by
      unfold rVs
      rw [List.getD_eq_getElem?_getD, List.getElem?_eq_none (by rw [l1]; exact List.getElem?_eq_none_iff.mp e)]
      simp [rE, rSm]
    simp [this]
theorem rCk_ok {iP : List Nat} {σ P : rS} {s : List rX} {pv : Nat} {lv : List (Nat × Value)} {st : List Value} {h : xH} (hA : rSt W T B A b i0 ρ γ σ lv st h) (h1 : rCk W T i0 iP σ P s pv = true) :
    rSt W T B A b iP (rVs ρ s) (rGv γ σ.2.2.2.2.1.length pv) P lv st h ∧ σ.2.2.2.2.2.2.1 ≤ P.2.2.2.2.2.2.1 ∧ σ.2.2.2.2.2.2.2 ≤ P.2.2.2.2.2.2.2 := by
  obtain ⟨hK, hL, hS, hY⟩ := hA
  simp only [rCk, Bool.and_eq_true] at h1
  obtain ⟨⟨⟨⟨⟨⟨⟨c1, c2⟩, c3⟩, c4⟩, c5⟩, c6⟩, c7⟩, c8⟩ := h1
  have hR := hK.1
  have hΓ := hK.2.1
  have facts : rFa (rVs ρ s) P.2.1 := fun g hg => by
    have := rPv_ok hR hΓ (List.all_eq_true.mp c2 g hg)
    rw [rE_sx] at this
    exact this
  have locs : rLoc W A (rVs ρ s) b P.2.2.1 lv := fun q hq => by
    have := List.all_eq_true.mp c3 q hq
    split at this
    · rename_i u hu
      obtain ⟨x, hx1, hx2⟩ := hL _ (rgt_mem hu)
      exact ⟨x, hx1, rVe_ok hR hΓ this hx2⟩
    · cases this
  have stk := rVeL_ok hR hΓ c4 hS
  have memo : rMo (rVs ρ s) (rGv γ σ.2.2.2.2.1.length pv) P.2.2.2.2.2.1 := fun q hq => by
    have := List.all_eq_true.mp c5 q hq
    unfold rMc at this
    by_cases e : q.1 = pv
    · rw [if_pos e] at this
      split at this
      · rename_i v hv
        have h2 := rGk_ok hK hv
        have h3 := rEq_ok hR hΓ this
        rw [rE_sx] at h3
        rw [rE_sx, rE_sx] at h2
        unfold rGv
        rw [if_pos e, h2, h3]
      · cases this
    · rw [if_neg e] at this
      simp only [Bool.and_eq_true] at this
      have e0 := Nat.eq_of_beq_eq_true this.1
      have this := this.2
      split at this
      · rename_i v hv
        have h2 := hK.2.2.2.1 _ (rLk_ok hv)
        have h3 := rEq_ok hR hΓ this
        rw [rE_sx] at h3
        dsimp only at h2
        rw [rE_sx, rE_sx] at h2
        unfold rGv
        rw [if_neg e, h2, h3]
      · cases this
  have rgs : ∀ n, rRg W (rGv γ σ.2.2.2.2.1.length pv n) := fun n => by
    unfold rGv
    split
    · exact hK.2.2.2.2.1 _ (Nat.le_refl _)
    · exact hK.2.2.2.2.1 _ (Nat.zero_le _)
  refine ⟨⟨⟨rOkR_of hR hΓ c1, facts, ?_, memo, fun n _ => rgs n, ?_⟩, locs, stk, ?_⟩, Nat.le_of_ble_eq_true c7, Nat.le_of_ble_eq_true c8⟩
  · split at c6
    · rename_i e
      rw [e]
      trivial
    · rename_i d e
      rw [e]
      simp only [Bool.and_eq_true, Bool.not_eq_true', decide_eq_true_eq] at c6
      obtain ⟨⟨⟨⟨d1, d2⟩, d3⟩, d4⟩, d5⟩ := c6
      have hp := Nat.eq_of_beq_eq_true d1
      refine ⟨?_, trivial⟩
      unfold rD1
      rw [if_neg (by intro q; rw [q] at d2; cases d2)]
      subst hp
      simp only [rGv, List.length_nil]
      exact ⟨fun G k j hn => rIm_ok hK.2.2.1 d3 G k j hn, rHas_ok hK d4⟩
    · cases c6
  · split at c6
    · simp only [Bool.and_eq_true] at c6
      have hp := Nat.eq_of_beq_eq_true c6.1
      subst hp
      simp only [rGv]
      exact rHas_ok hK c6.2
    · simp only [Bool.and_eq_true, Bool.not_eq_true', decide_eq_true_eq] at c6
      have hp := Nat.eq_of_beq_eq_true c6.1.1.1.1
      subst hp
      rw [c6.2]
      simp only [rGv]
      exact hK.2.2.2.2.2
    · cases c6
  · split at c6
    · rename_i e
      rw [e]
      simp only [Bool.and_eq_true] at c6
      have hp := Nat.eq_of_beq_eq_true c6.1
      subst hp
      simp only [rGv]
      exact hY
    · rename_i d e
      rw [e]
      simp only [Bool.and_eq_true] at c6
      have hp := Nat.eq_of_beq_eq_true c6.1.1.1.1
      subst hp
      simp only [rGv]
      exact hY
    · cases c6
/-- the lines of the pattern's numbers, and the state with what was read -/
noncomputable def rMt0 (W : List rGr) (σ P : rS) (ex : List rX) (m pv : Nat) : Option (List rX × rS) :=
  match rMs m W σ.2.1 σ.2.2.2.2.1 (rLs σ.2.2.1 σ.2.2.2.1 ++ ex) P pv σ.1 σ.2.2.2.2.2.1 (rTaL (rTaQ σ.2.2.1 [] P.2.2.1) P.2.2.2.1 σ.2.2.2.1) P.2.2.2.2.2.1 with
  | some z => some (rTv m z.1 P.1 0, (z.2.1, σ.2.1, σ.2.2.1, σ.2.2.2.1, σ.2.2.2.2.1, z.2.2, σ.2.2.2.2.2.2))
  | none => none
theorem rLs_loc {L : List (Nat × rV)} {S : List rV} {ρ_q : Nat → Int} {lv : List (Nat × Value)} {st : List Value} (he : ∀ x ∈ rLs L S, rE ρ_q x = rE ρ x) (hL : rLoc W A ρ b L lv) (hS : rStk W A ρ b S st) : rLoc W A ρ_q b L lv ∧ rStk W A ρ_q b S st := by
  have one : ∀ (v : rV) (x : Value), rE ρ_q v.2.2 = rE ρ v.2.2 → rMv W A ρ b v x → rMv W A ρ_q b v x := by
    intro v x e h
    unfold rMv at h ⊢
    rw [e]
    exact h
  refine ⟨fun q hq => ?_, ?_⟩
  · obtain ⟨x, h1, h2⟩ := hL q hq
    exact ⟨x, h1, one _ _ (he _ (List.mem_append.mpr (Or.inl (List.mem_map.mpr ⟨q, hq, rfl⟩)))) h2⟩
  · have hS2 : ∀ v ∈ S, rE ρ_q v.2.2 = rE ρ v.2.2 := fun v hv => he _ (List.mem_append.mpr (Or.inr (List.mem_map.mpr ⟨v, hv, rfl⟩)))
    clear he hL
    induction S generalizing st with
    | nil =>
      cases st with
      | nil => trivial
      | cons _ _ => exact hS.elim
    | cons v S ih =>
      cases st with
      | nil => exact hS.elim
      | cons x xs => exact ⟨one _ _ (hS2 v List.mem_cons_self) hS.1, ih hS.2 (fun u hu => hS2 u (List.mem_cons_of_mem _ hu))⟩
theorem rMt0_ok {σ P σ_q : rS} {ex : List rX} {m pv : Nat} {s : List rX} {lv : List (Nat × Value)} {st : List Value} {h : xH} (hA : rSt W T B A b i0 ρ γ σ lv st h) (h1 : rMt0 W σ P ex m pv = some (s, σ_q)) :
    ∃ ρ_q, (∀ n, n < σ.1.length → ρ_q n = ρ n) ∧ σ.1.length ≤ σ_q.1.length ∧ rSt W T B A b i0 ρ_q γ σ_q lv st h ∧ σ_q.2.2.2.2.1 = σ.2.2.2.2.1 ∧ σ_q.2.2.2.2.2.2 = σ.2.2.2.2.2.2 ∧ σ_q.2.2.2.1 = σ.2.2.2.1 ∧ σ_q.2.2.1 = σ.2.2.1 ∧ σ_q.2.1 = σ.2.1 ∧ s.length = P.1.length ∧ ∀ x ∈ ex, rE ρ_q x = rE ρ x := by
  unfold rMt0 at h1
  split at h1
  · rename_i z hz
    cases h1
    obtain ⟨θ_q, R_q, M_q⟩ := z
    obtain ⟨ρ_q, a1, a2, a3, a4⟩ := rMs_ok hA.1 hz
    obtain ⟨l1, l2⟩ := rLs_loc (fun x hx => a4 x (List.mem_append.mpr (Or.inl hx))) hA.2.1 hA.2.2.1
    exact ⟨ρ_q, a1, a2, ⟨a3, l1, l2, hA.2.2.2⟩, rfl, rfl, rfl, rfl, rfl, rTv_len, fun x hx => a4 x (List.mem_append.mpr (Or.inr hx))⟩
  · cases h1
/-- the numbers below m are themselves -/
noncomputable def rId9 (m : Nat) (s : List rX) : Nat → Bool := @List.rec rX (fun _ => Nat → Bool) (fun k => Nat.ble m k) (fun x _ ih k => rCo (Nat.ble m k) true (rCo (rXq x (rSy k)) (ih (Nat.succ k)) false)) s
noncomputable def rId (m : Nat) (s : List rX) : Bool := rId9 m s 0
theorem rId9_ok {m : Nat} : ∀ {s : List rX} {i k : Nat}, rId9 m s i = true → i + k < m → s[k]? = some (rSy (i + k))
  | [], i, k, h, hk => by
    have := Nat.le_of_ble_eq_true (show Nat.ble m i = true from h)
    omega
  | x :: r, i, k, h, hk => by
    have h : rCo (Nat.ble m i) true (rCo (rXq x (rSy i)) (rId9 m r (i + 1)) false) = true := h
    have hb : Nat.ble m i = false := by
      cases hb : Nat.ble m i with
      | true => exact absurd (Nat.le_of_ble_eq_true hb) (by omega)
      | false => rfl
    rw [hb, rCo_f] at h
    obtain ⟨h1, h2⟩ := rcn.mp h
    cases k with
    | zero => rw [rXq_ok h1]; rfl
    | succ k =>
      rw [List.getElem?_cons_succ, rId9_ok h2 (by omega), show i + 1 + k = i + (k + 1) by omega]
theorem rId_ok {m : Nat} {s : List rX} (h : rId m s = true) {k : Nat} (hk : k < m) : rVs ρ s k = ρ k := by
  have := rId9_ok h (show 0 + k < m by omega)
  rw [Nat.zero_add] at this
  unfold rVs
  rw [List.getD_eq_getElem?_getD, this]
  simp only [Option.getD_some]
  exact rE_sy
/-- the state is as the pattern says: the numbers below m, and the first version, are the same -/
noncomputable def rMat (W : List rGr) (T : List rIT) (j0 : List Nat) (m : Nat) (σ P : rS) : Bool := match rMt0 W σ P [] m 1 with
  | some z => rCk W T j0 j0 z.2 P z.1 1 && rId m z.1
  | none => false
theorem rMat_ok {m : Nat} {σ P : rS} {lv : List (Nat × Value)} {st : List Value} {h : xH} (hA : rSt W T B A b i0 ρ γ σ lv st h) (hm : m ≤ σ.1.length) (h1 : rMat W T i0 m σ P = true) :
    ∃ (ρ_q : Nat → Int) (γ_q : Nat → rHp), (∀ k, k < m → ρ_q k = ρ k) ∧ γ_q 0 = γ 0 ∧ rSt W T B A b i0 ρ_q γ_q P lv st h ∧ σ.2.2.2.2.2.2.1 ≤ P.2.2.2.2.2.2.1 ∧ σ.2.2.2.2.2.2.2 ≤ P.2.2.2.2.2.2.2 := by
  unfold rMat at h1
  split at h1
  · rename_i z hz
    obtain ⟨s, σ_q⟩ := z
    simp only [Bool.and_eq_true] at h1
    obtain ⟨ρ_q, a1, a2, a3, a4, a5, -⟩ := rMt0_ok hA hz
    obtain ⟨c1, c2, c3⟩ := rCk_ok a3 h1.1
    refine ⟨_, _, fun k hk => (rId_ok h1.2 hk).trans (a1 k (by omega)), ?_, c1, by rw [← a5]; exact c2, by rw [← a5]; exact c3⟩
    simp only [rGv]
    rw [if_neg (by decide)]
  · cases h1
end XM
