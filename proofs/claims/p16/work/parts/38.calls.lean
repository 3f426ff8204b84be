/-! ===== calls and ends ===== -/
noncomputable def rIr (I : rI) : Room := { frames := I.2.1.1, cells := I.2.1.2.1, slots := I.2.1.2.2.1, locals := I.2.1.2.2.2.1 }
/-- the room of the case fits into that of the walk, of which K and N are used -/
noncomputable def rRmo (own : rI) (R : Room) (K N kc ks : Nat) : Prop := own.2.1.1 ≤ R.frames ∧ own.2.1.2.1 + K ≤ R.cells ∧ own.2.1.2.2.1 + N ≤ R.slots ∧ own.2.1.2.2.2.1 ≤ R.locals ∧ own.2.1.2.2.2.2.1 + K ≤ kc ∧ own.2.1.2.2.2.2.2 + N ≤ ks
theorem rRmo_self (I : rI) : rRmo I (rIr I) 0 0 I.2.1.2.2.2.2.1 I.2.1.2.2.2.2.2 := ⟨Nat.le_refl _, Nat.le_refl _, Nat.le_refl _, Nat.le_refl _, Nat.le_refl _, Nat.le_refl _⟩
noncomputable def rQf (W : List rGr) (T : List rIT) (B : Nat) (A : rA) (b : aSc) (ρ : Nat → Int) (γ : Nat → rHp) (I : rI) : Option Value → xH → Prop := fun v h_q =>
  ∃ E ∈ I.2.2.2.2.1, ∃ (ρ_q : Nat → Int) (γ_q : Nat → rHp), (∀ k, k < I.2.2.1.1.length → ρ_q k = ρ k) ∧ γ_q 0 = γ 0 ∧ rSt W T B A b I.2.2.2.1 ρ_q γ_q E [] v.toList h_q
noncomputable def rXf (W : List rGr) (T : List rIT) (B : Nat) (A : rA) (b : aSc) (ρ : Nat → Int) (γ : Nat → rHp) (xn : List String) (I : rI) : String → xH → Prop := fun X h_q =>
  ∃ q ∈ I.2.2.2.2.2, xn[q.1]? = some X ∧ ∃ (ρ_q : Nat → Int) (γ_q : Nat → rHp), (∀ k, k < I.2.2.1.1.length → ρ_q k = ρ k) ∧ γ_q 0 = γ 0 ∧ rSt W T B A b I.2.2.2.1 ρ_q γ_q q.2 [] [] h_q
/-- the case's contract -/
noncomputable def rMt (D : va_G) (dA : Nat → ClassId) (cl : List vw_C) (tA : List (Nat × FieldType)) (B : Nat) (nw : List Cond) (nc : List (String × String)) (ao : List String) (W0 : List Cond) (l : Launch) (W : List rGr) (T : List rIT) (A : rA) (b : aSc) (xn : List String) (y : MethodName) (cw : Cond) (I : rI) : Prop :=
  ∀ (ρ : Nat → Int) (γ : Nat → rHp) (av : List Value) (h : xH), rSt W T B A b I.2.2.2.1 ρ γ I.2.2.1 [] av h → yMet D dA cl tA B nw nc ao W0 l y cw (rIr I) I.2.1.2.2.2.2.1 I.2.1.2.2.2.2.2 av h (rQf W T B A b ρ γ I) (rXf W T B A b ρ γ xn I)
noncomputable def rSv (s : List rX) (v : rV) : rV := (v.1, v.2.1, rSx s v.2.2)
/-- the state behind the callee's end E; s: the lines of the callee's first numbers -/
noncomputable def rSe (σ : rS) (s : List rX) (I : rI) (E : rS) : List rX := s ++ rSyL σ.1.length (E.1.length - I.2.2.1.1.length)
noncomputable def rAf (dk dn : Nat) (σ : rS) (s : List rX) (I : rI) (E : rS) : Option rS := match rAsL (σ.1 ++ E.1.drop I.2.2.1.1.length) σ.2.1 (E.2.1.map (rSx (rSe σ s I E))), E.2.2.2.2.1 with
  | some q, [d] => some (q.1, q.2, σ.2.2.1, E.2.2.2.1.map (rSv (rSe σ s I E)) ++ σ.2.2.2.1, (1, (0, rC 0, rC 0, rC 0), d.2.2.1, d.2.2.2) :: σ.2.2.2.2.1,
      σ.2.2.2.2.2.1 ++ (E.2.2.2.2.2.1.filter (fun q => Nat.beq q.1 1)).map (fun q => (σ.2.2.2.2.1.length + 1, q.2.1, rSx (rSe σ s I E) q.2.2.1, rSx (rSe σ s I E) q.2.2.2.1, rSx (rSe σ s I E) q.2.2.2.2)), σ.2.2.2.2.2.2.1 + dk, σ.2.2.2.2.2.2.2 + dn)
  | _, _ => none
noncomputable def rCe1 (I : rI) (E : rS) : Bool := Nat.ble I.2.2.1.1.length E.1.length && E.2.1.all (rWx E.1.length) && E.2.2.2.1.all (fun v => rWx E.1.length v.2.2) && E.2.2.2.2.2.1.all (rWm E.1.length 1) && (match E.2.2.2.2.1 with | [d] => !(Nat.beq d.1 0) | _ => false)
section XAf
variable {W : List rGr} {T : List rIT} {B : Nat} {A : rA} {b : aSc} {i0 : List Nat} {ρ : Nat → Int} {γ : Nat → rHp} {σ : rS} {lv : List (Nat × Value)} {st : List Value} {h h_q : xH} {I : rI} {E : rS}
theorem rStk_map {ρ2 ρE : Nat → Int} {s : List rX} {S : List rV} (hS : rStk W A ρ2 b S st) : ∀ {U : List rV} {vs : List Value}, (∀ u ∈ U, rE ρ2 (rSx s u.2.2) = rE ρE u.2.2) → rStk W A ρE b U vs → rStk W A ρ2 b (U.map (rSv s) ++ S) (vs ++ st)
  | [], [], _, _ => hS
  | u :: U, y :: vs, hx, h1 => by
    refine ⟨?_, rStk_map hS (fun z hz => hx z (List.mem_cons_of_mem _ hz)) h1.2⟩
    have := h1.1
    have e := hx u List.mem_cons_self
    unfold rMv at this ⊢
    simp only [rSv]
    rw [e]
    exact this
  | [], _ :: _, _, h1 => h1.elim
  | _ :: _, [], _, h1 => h1.elim
theorem rVs_se {s : List rX} {ρE ρ2 : Nat → Int} (hl : s.length = I.2.2.1.1.length) (hm : I.2.2.1.1.length ≤ E.1.length) (h1 : ∀ k, k < I.2.2.1.1.length → rVs ρ2 s k = ρE k) (h2 : ∀ k, k < E.1.length - I.2.2.1.1.length → ρ2 (σ.1.length + k) = ρE (I.2.2.1.1.length + k)) : ∀ k, k < E.1.length → rVs ρ2 (rSe σ s I E) k = ρE k := by
  intro k hk
  unfold rSe
  by_cases hlt : k < s.length
  · rw [← h1 k (by omega)]
    unfold rVs
    rw [List.getD_eq_getElem?_getD, List.getD_eq_getElem?_getD, List.getElem?_append_left hlt]
  · unfold rVs
    rw [List.getD_eq_getElem?_getD, List.getElem?_append_right (by omega)]
    unfold rSyL
    rw [List.getElem?_map, List.getElem?_range (by omega)]
    simp only [Option.map_some, Option.getD_some]
    rw [rE_sy, h2 _ (by omega)]
    congr 1
    omega
theorem rAf_ok {dk dn : Nat} {s : List rX} {ρE : Nat → Int} {γE : Nat → rHp} {vs : List Value} (hA : rSt W T B A b i0 ρ γ σ lv st h) (hw : rWf σ σ.2.2.2.1 = true) (hsw : s.all (rWx σ.1.length) = true) (hl : s.length = I.2.2.1.1.length) (hce : rCe1 I E = true) (hρ : ∀ k, k < I.2.2.1.1.length → ρE k = rVs ρ s k) (hγ : γE 0 = γ σ.2.2.2.2.1.length) {iE : List Nat} (hE : rSt W T B A b iE ρE γE E [] vs h_q) :
    ∃ σ2, rAf dk dn σ s I E = some σ2 ∧ ∃ (ρ2 : Nat → Int) (γ2 : Nat → rHp), rSm0 σ ρ ρ2 γ γ2 ∧ rSt W T B A b i0 ρ2 γ2 σ2 lv (vs ++ st) h_q := by
  simp only [rCe1, Bool.and_eq_true] at hce
  obtain ⟨⟨⟨⟨c1, c2⟩, c3⟩, c4⟩, c5⟩ := hce
  have c1 := Nat.le_of_ble_eq_true c1
  simp only [rWf, Bool.and_eq_true] at hw
  have hw1 := hw.1
  simp only [rWk, rAa_eq, Bool.and_eq_true] at hw1
  let ρ2 : Nat → Int := fun k => if k < σ.1.length then ρ k else ρE (I.2.2.1.1.length + (k - σ.1.length))
  let γ2 : Nat → rHp := aUp γ (σ.2.2.2.2.1.length + 1) (γE 1)
  have hs : ∀ k, k < σ.1.length → ρ2 k = ρ k := fun k hk => if_pos hk
  have hg : ∀ n, n ≤ σ.2.2.2.2.1.length → γ2 n = γ n := fun n hn => aUp_ne _ _ (by omega)
  have hv : ∀ k, k < E.1.length → rVs ρ2 (rSe σ s I E) k = ρE k := rVs_se hl c1 (fun k hk => by
    rw [hρ k hk, rVs_same (fun x hx => rE_same hs (List.all_eq_true.mp hsw x hx))]) (fun k hk => by
    show (if _ then _ else _) = _
    rw [if_neg (by omega)]
    congr 1
    omega)
  have hx : ∀ x : rX, rWx E.1.length x = true → rE ρ2 (rSx (rSe σ s I E) x) = rE ρE x := fun x hx => by
    rw [rE_sx]
    exact rE_same hv hx
  have hR : aOkR (σ.1 ++ E.1.drop I.2.2.1.1.length) ρ2 := by
    intro k
    unfold aG
    rw [List.getD_eq_getElem?_getD]
    by_cases hk : k < σ.1.length
    · rw [List.getElem?_append_left hk, hs k hk]
      have := hA.1.1 k
      unfold aG at this
      rw [List.getD_eq_getElem?_getD] at this
      exact this
    · rw [List.getElem?_append_right (by omega), List.getElem?_drop]
      have e : ρ2 k = ρE (I.2.2.1.1.length + (k - σ.1.length)) := if_neg hk
      rw [e]
      have := hE.1.1 (I.2.2.1.1.length + (k - σ.1.length))
      unfold aG at this
      rw [List.getD_eq_getElem?_getD] at this
      exact this
  obtain ⟨q, e1, e2, e3, e4⟩ := rAsL_ok (xs := E.2.1.map (rSx (rSe σ s I E))) hR (rFa_same hs hw1.1.1 hA.1.2.1) (fun y hy => by
    obtain ⟨x, hxm, rfl⟩ := List.mem_map.mp hy
    rw [hx x (List.all_eq_true.mp c2 x hxm)]
    exact hE.1.2.1 x hxm)
  split at c5
  · rename_i d hd
    unfold rAf
    rw [e1, hd]
    refine ⟨_, rfl, ρ2, γ2, ⟨hs, hg⟩, ⟨e2, e3, ⟨?_, rCh_up hg (rCh_same hs hw1.1.2 hA.1.2.2.1)⟩, ?_, ?_, ?_⟩, ?_, ?_, ?_⟩
    · have hch := hE.1.2.2.1
      rw [hd] at hch
      have h1 := hch.1
      unfold rD1 at h1 ⊢
      rw [if_neg (by intro z; rw [z] at c5; cases c5)] at h1
      rw [if_neg (by decide : ¬ (1 : Nat) = 0)]
      show (∀ G k j, _ → aUp γ _ (γE 1) (σ.2.2.2.2.1.length + 1) G k j = γ2 σ.2.2.2.2.1.length G k j) ∧ rIvs T (aUp γ _ (γE 1) (σ.2.2.2.2.1.length + 1)) _
      rw [aUp_self, hg _ (Nat.le_refl _), ← hγ]
      exact h1
    · intro z hz
      rcases List.mem_append.mp hz with hz | hz
      · exact rMo_same hs hg hw1.2 hA.1.2.2.2.1 z hz
      · obtain ⟨y, hy, rfl⟩ := List.mem_map.mp hz
        obtain ⟨hy1, hy2⟩ := List.mem_filter.mp hy
        have hy2 := Nat.eq_of_beq_eq_true hy2
        have hyw := List.all_eq_true.mp c4 y hy1
        simp only [rWm, Bool.and_eq_true] at hyw
        have := hE.1.2.2.2.1 y hy1
        rw [hy2] at this
        show aUp γ _ (γE 1) (σ.2.2.2.2.1.length + 1) y.2.1 _ _ = _
        rw [aUp_self]
        dsimp only
        rw [hx _ hyw.1.1.2, hx _ hyw.1.2, hx _ hyw.2]
        exact this
    · intro n hn
      by_cases e : n = σ.2.2.2.2.1.length + 1
      · rw [e]
        show rRg W (aUp γ _ (γE 1) (σ.2.2.2.2.1.length + 1))
        rw [aUp_self]
        exact hE.1.2.2.2.2.1 1 (by rw [hd]; exact Nat.le_refl _)
      · have hn2 : n ≤ σ.2.2.2.2.1.length + 1 := hn
        rw [hg n (by omega)]
        exact hA.1.2.2.2.2.1 n (by omega)
    · rw [hg _ (Nat.zero_le _)]
      exact hA.1.2.2.2.2.2
    · exact (rLs_loc (W := W) (A := A) (b := b) (lv := lv) (st := st) (fun x hx => rE_same hs (List.all_eq_true.mp hw.2 x hx)) hA.2.1 hA.2.2.1).1
    · have hS := (rLs_loc (W := W) (A := A) (b := b) (lv := lv) (st := st) (fun x hx => rE_same hs (List.all_eq_true.mp hw.2 x hx)) hA.2.1 hA.2.2.1).2
      exact rStk_map hS (fun u hu => hx _ (List.all_eq_true.mp c3 u hu)) hE.2.2.1
    · have := hE.2.2.2
      rw [hd] at this
      show rLay W B A (aUp γ _ (γE 1) (σ.2.2.2.2.1.length + 1)) h_q
      rw [aUp_self]
      exact this
  · cases c5
end XAf
/-- all of the state but locals and stack -/
noncomputable def rNoL (σ : rS) (S : List rV) : rS := (σ.1, σ.2.1, [], S, σ.2.2.2.2)
noncomputable def rThr (W : List rGr) (T : List rIT) (own : rI) (hs : List (Nat × Nat × Nat × Nat × Nat)) (σ : rS) (pc x : Nat) : Option (List (Nat × rS)) :=
  match aHd hs pc x with
  | some hp => some [(hp, rWS σ [(8, 0, rC 0)])]
  | none => if hs.isEmpty = true ∧ own.2.2.2.2.2.any (fun q => Nat.beq q.1 x && rMat W T own.2.2.2.1 own.2.2.1.1.length (rNoL σ []) q.2) = true then some [] else none
noncomputable def rBehind (W : List rGr) (T : List rIT) (own : rI) (hs : List (Nat × Nat × Nat × Nat × Nat)) (σ : rS) (s : List rX) (I : rI) (pc : Nat) : Option (List (Nat × rS)) :=
  if I.2.2.2.2.1.all (rCe1 I) = true ∧ I.2.2.2.2.2.all (fun q => rCe1 I q.2) = true ∧ rWf σ σ.2.2.2.1 = true ∧ s.all (rWx σ.1.length) = true then
    aAll (I.2.2.2.2.1.map (fun E => match rAf I.2.1.2.2.2.2.1 I.2.1.2.2.2.2.2 σ s I E with | some σ2 => some [(pc + 3, σ2)] | none => some []) ++
      I.2.2.2.2.2.map (fun q => match rAf I.2.1.2.1 I.2.1.2.2.1 σ s I q.2 with | some σ2 => rThr W T own hs (rWS σ2 []) pc q.1 | none => some []))
  else none
noncomputable def rRoomOk (own I : rI) (maxL k n : Nat) : Bool := Nat.ble (I.2.1.1 + 1) own.2.1.1 && Nat.ble (8 + (maxL + 11) + I.2.1.2.2.2.1) own.2.1.2.2.2.1 && Nat.ble (k + I.2.1.2.1) own.2.1.2.1 && Nat.ble (n + I.2.1.2.2.1) own.2.1.2.2.1
noncomputable def rRcv (W : List rGr) (ci : Nat) (U : List rV) : Bool := match U with
  | v :: _ => Nat.beq v.1 2 && (match W[v.2.1]? with | some g => Nat.beq g.1 ci | none => false)
  | [] => false
noncomputable def rTry (mx : List Nat) (W : List rGr) (T : List rIT) (own : rI) (hs : List (Nat × Nat × Nat × Nat × Nat)) (J : List rI) (q : aIv) (σ : rS) (pc n : Nat) : Option (List (Nat × rS)) := match J[n]? with
  | some I => (match rMt0 W (σ.1, σ.2.1, [], (σ.2.2.2.1.take q.2.2.1).reverse, σ.2.2.2.2.1, σ.2.2.2.2.2.1, 0, 0) I.2.2.1 (rLs σ.2.2.1 (σ.2.2.2.1.drop q.2.2.1)) 0 0 with
    | some z => if I.1 = q.2.2.2.2.1 ∧ rRoomOk own I (mx.getD I.1 0) σ.2.2.2.2.2.2.1 σ.2.2.2.2.2.2.2 = true ∧ q.2.2.1 ≤ σ.2.2.2.1.length ∧ ((σ.2.2.2.1.drop q.2.2.1).map rcat).sum ≤ 8 ∧
        (q.2.1 = 0 → rRcv W q.2.2.2.1 (σ.2.2.2.1.take q.2.2.1).reverse = true) ∧ (q.2.1 = 5 ∨ q.2.1 = 6 → I.2.2.2.2.2.isEmpty = true ∧ I.2.1.2.2.2.2.1 = I.2.1.2.1 ∧ I.2.1.2.2.2.2.2 = I.2.1.2.2.1) ∧ I.2.2.1.2.2.1.isEmpty = true ∧
        rCk W T own.2.2.2.1 I.2.2.2.1 z.2 I.2.2.1 z.1 0 = true then
      rBehind W T own hs (z.2.1, σ.2.1, σ.2.2.1, σ.2.2.2.1.drop q.2.2.1, σ.2.2.2.2.1, z.2.2.2.2.2.2.1, σ.2.2.2.2.2.2) z.1 I pc else none
    | none => none)
  | none => none
noncomputable def rsV (mx : List Nat) (W : List rGr) (T : List rIT) (own : rI) (hs : List (Nat × Nat × Nat × Nat × Nat)) (J : List rI) (iv : List aIv) (σ : rS) (i : Instr) (len pc : Nat) : Option (List (Nat × rS)) := match aXx i with
  | some t => (match iv.find? (fun q => q.1 == t.1) with
    | some q => if len = 3 ∧ ((aXs t.2 q.2.1 = true ∧ (q.2.1 = 0 ∨ q.2.1 = 1 ∨ q.2.1 = 5)) ∨ (t.2 = 1 ∧ q.2.1 = 6)) then aFst (rTry mx W T own hs J q σ pc) q.2.2.2.2.2 else none
    | none => none)
  | none => none
noncomputable def rRt (W : List rGr) (T : List rIT) (own : rI) (σ : rS) : Bool := own.2.2.2.2.1.any (fun E => rMat W T own.2.2.2.1 own.2.2.1.1.length (rNoL σ σ.2.2.2.1) E)
noncomputable def rsR (W : List rGr) (T : List rIT) (own : rI) (rtc : Nat) (σ : rS) (i : Instr) (len : Nat) : Option (List (Nat × rS)) := match i with
  | .ireturn => (match σ.2.2.2.1 with | [v] => if len = 1 ∧ (rtc = 0 ∨ rtc = 2 ∨ rtc = 3) ∧ rTk σ.1 rtc v = true ∧ rRt W T own σ = true then some [] else none | _ => none)
  | .lreturn => (match σ.2.2.2.1 with | [v] => if len = 1 ∧ rtc = 1 ∧ v.1 = 1 ∧ rRt W T own σ = true then some [] else none | _ => none)
  | .areturn => (match σ.2.2.2.1 with | [v] => if len = 1 ∧ rtc = 4 ∧ 1 < v.1 ∧ rRt W T own σ = true then some [] else none | _ => none)
  | .return_ => (match σ.2.2.2.1 with | [] => if len = 1 ∧ rtc = 5 ∧ rRt W T own σ = true then some [] else none | _ => none)
  | _ => none
noncomputable def rTw (W : List rGr) (T : List rIT) (own : rI) (σ : rS) (x : Nat) : Bool := Nat.blt 5 own.2.1.1 && Nat.ble ((σ.2.2.2.1.map rcat).sum + 81) own.2.1.2.2.2.1 && Nat.ble (σ.2.2.2.2.2.2.1 + 1) own.2.1.2.1 && Nat.ble (σ.2.2.2.2.2.2.2 + 6) own.2.1.2.2.1 &&
  own.2.2.2.2.2.any (fun q => Nat.beq q.1 x && rMat W T own.2.2.2.1 own.2.2.1.1.length (σ.1, σ.2.1, [], [], σ.2.2.2.2.1, σ.2.2.2.2.2.1, σ.2.2.2.2.2.2.1 + 1, σ.2.2.2.2.2.2.2 + 6) q.2)
section XEr
variable {p : Program} {l : Launch} {e : Env} {R0 : Room} {s : State} {m : MethodId} {args : Array Value} {below : List Frame} {meth : Method} {c : Code} {Q : State → Prop} {K9 N9 : Nat}
variable {cc : ByteArray} {nL : Nat} {Ts : List Cond} {own : String} {D : va_G} {dA : Nat → ClassId} {cl : List vw_C} {tA : List (Nat × FieldType)} {tyf : Nat → Nat → FieldType} {B : Nat}
variable {W : List rGr} {T : List rIT} {A : rA} {b : aSc} {i0 : List Nat} {ρ : Nat → Int} {γ : Nat → rHp} {σ : rS} {pc len : Nat} {lv : List (Nat × Value)} {st : List Value} {h : xH} {i : Instr} {l1 : List (Nat × rS)}
variable {kc9 kn9 : Nat} {own9 I : rI} {ρ0 : Nat → Int} {γ0 : Nat → rHp} {xn : List String} {nw : List Cond} {nc : List (String × String)} {ao : List String} {W0 : List Cond} {mth : List aMd} {mx : List Nat} {J : List rI} {hs9 : List (Nat × Nat × Nat × Nat × Nat)} {iv : List aIv}
theorem rSum_ok : ∀ {S : List rV} {st : List Value}, rStk W A ρ b S st → (st.map fun v => v.category).sum = (S.map rcat).sum
  | [], [], _ => rfl
  | v :: S, x :: st, h1 => by
    simp only [List.map_cons, List.sum_cons]
    rw [rcat_ok h1.1, rSum_ok h1.2]
  | [], _ :: _, h1 => h1.elim
  | _ :: _, [], h1 => h1.elim
theorem rStk_len : ∀ {S : List rV} {st : List Value}, rStk W A ρ b S st → S.length = st.length
  | [], [], _ => rfl
  | _ :: S, _ :: st, h1 => by simp [rStk_len h1.2]
  | [], _ :: _, h1 => h1.elim
  | _ :: _, [], h1 => h1.elim
theorem rStk_app : ∀ {S S_q : List rV} {st st_q : List Value}, rStk W A ρ b S st → rStk W A ρ b S_q st_q → rStk W A ρ b (S ++ S_q) (st ++ st_q)
  | [], _, [], _, _, h2 => h2
  | _ :: S, _, _ :: st, _, h1, h2 => ⟨h1.1, rStk_app h1.2 h2⟩
  | [], _, _ :: _, _, h1, _ => h1.elim
  | _ :: _, _, [], _, h1, _ => h1.elim
theorem rStk_rev : ∀ {S : List rV} {st : List Value}, rStk W A ρ b S st → rStk W A ρ b S.reverse st.reverse
  | [], [], _ => trivial
  | v :: S, x :: st, h1 => by
    rw [List.reverse_cons, List.reverse_cons]
    exact rStk_app (rStk_rev h1.2) ⟨h1.1, trivial⟩
  | [], _ :: _, h1 => h1.elim
  | _ :: _, [], h1 => h1.elim
theorem rStk_cut : ∀ (n : Nat) {S : List rV} {st : List Value}, rStk W A ρ b S st → rStk W A ρ b (S.take n) (st.take n) ∧ rStk W A ρ b (S.drop n) (st.drop n)
  | 0, _, _, h1 => ⟨trivial, h1⟩
  | n + 1, [], [], _ => ⟨trivial, trivial⟩
  | n + 1, v :: S, x :: st, h1 => ⟨⟨h1.1, (rStk_cut n h1.2).1⟩, (rStk_cut n h1.2).2⟩
  | _ + 1, [], _ :: _, h1 => h1.elim
  | _ + 1, _ :: _, [], h1 => h1.elim
/-- an end by a throw -/
theorem rXo_ok {x : Nat} {X : String} (hA : rSt W T B A b own9.2.2.2.1 ρ γ σ [] [] h) (hs : (∀ k, k < own9.2.2.1.1.length → ρ k = ρ0 k) ∧ γ 0 = γ0 0) (hm : own9.2.2.1.1.length ≤ σ.1.length) (hx : xn[x]? = some X)
    (hr : own9.2.2.2.2.2.any (fun q => Nat.beq q.1 x && rMat W T own9.2.2.2.1 own9.2.2.1.1.length σ q.2) = true) : rXf W T B A b ρ0 γ0 xn own9 X h := by
  obtain ⟨q, hq, he⟩ := List.any_eq_true.mp hr
  simp only [Bool.and_eq_true] at he
  obtain ⟨ρ_q, γ_q, g1, g2, g3, -, -⟩ := rMat_ok hA hm he.2
  exact ⟨q, hq, by rw [Nat.eq_of_beq_eq_true he.1]; exact hx, ρ_q, γ_q, fun k hk => (g1 k hk).trans (hs.1 k hk), g2.trans hs.2, g3⟩
theorem rRt_ok (hA : rSt W T B A b own9.2.2.2.1 ρ γ σ lv st h) (hs : (∀ k, k < own9.2.2.1.1.length → ρ k = ρ0 k) ∧ γ 0 = γ0 0) (hm : own9.2.2.1.1.length ≤ σ.1.length) (hr : rRt W T own9 σ = true) {v : Option Value} (hv : v.toList = st) : rQf W T B A b ρ0 γ0 own9 v h := by
  unfold rRt at hr
  obtain ⟨E, hE, he⟩ := List.any_eq_true.mp hr
  have hA2 : rSt W T B A b own9.2.2.2.1 ρ γ (rNoL σ σ.2.2.2.1) [] st h := ⟨hA.1, (fun q hq => by cases hq), hA.2.2.1, hA.2.2.2⟩
  obtain ⟨ρ_q, γ_q, g1, g2, g3, -, -⟩ := rMat_ok hA2 hm he
  exact ⟨E, hE, ρ_q, γ_q, fun k hk => (g1 k hk).trans (hs.1 k hk), g2.trans hs.2, by rw [hv]; exact g3⟩
theorem rsR_ok {rtc : Nat} (C : xCx p s m args c cc nL Ts own D dA cl tA tyf B) (hlocks : meth.locks = false) (hRm : rRmo own9 R0 K9 N9 kc9 kn9) {ret : Option FieldType} (hr : meth.sig.returnType = ret) (hrc : aRc rtc ret) (hA : rSt W T B A b own9.2.2.2.1 ρ γ σ lv st h) (hs : (∀ k, k < own9.2.2.1.1.length → ρ k = ρ0 k) ∧ γ 0 = γ0 0) (hm : own9.2.2.1.1.length ≤ σ.1.length) (hk : σ.2.2.2.2.2.2.1 ≤ own9.2.1.2.2.2.2.1) (hn : σ.2.2.2.2.2.2.2 ≤ own9.2.1.2.2.2.2.2) (hdg : decode cc pc = .ok (i, len)) (h1 : rsR W T own9 rtc σ i len = some l1) : xSafe p l e R0 s m args below meth c nL D dA cl tA B (yEnd below args s D dA cl tA B (rQf W T B A b ρ0 γ0 own9) (rXf W T B A b ρ0 γ0 xn own9) kc9 kn9 R0.cells R0.slots) pc lv st h (σ.2.2.2.2.2.2.1 + K9) (σ.2.2.2.2.2.2.2 + N9) := by
  have one : ∀ {v : rV}, σ.2.2.2.1 = [v] → ∃ x, st = [x] ∧ rMv W A ρ b v x := by
    intro v hS
    have h3 := hA.2.2.1
    rw [hS] at h3
    obtain ⟨x, st_q, rfl, hx, h4⟩ := rStk_cons h3
    cases st_q with
    | nil => exact ⟨x, rfl, hx⟩
    | cons _ _ => exact h4.elim
  unfold rsR at h1
  split at h1
  · split at h1
    · rename_i v hS
      split at h1
      · rename_i hc
        obtain ⟨rfl, c1, c2, c3⟩ := hc
        obtain ⟨x, rfl, hx⟩ := one hS
        obtain ⟨ty, e1, e2⟩ := hrc.2 (by omega)
        have hz0 := rPz_ok hx
        obtain ⟨n1, n2⟩ := aTok_ok (rPr_ok hA.1.1) hz0 e2 c2
        have h0v : (rPz v).1 = 0 := by
          unfold rTk at c2
          rcases c1 with rfl | rfl | rfl
          · simpa [aTok] using c2
          · simp only [aTok, Bool.and_eq_true, decide_eq_true_eq] at c2; exact c2.1
          · simp only [aTok, Bool.and_eq_true, decide_eq_true_eq] at c2; exact c2.1
        obtain ⟨z, rfl, hz⟩ := aM_int hz0 h0v
        exact ys_iret C hlocks (hr.trans e1) n1 (Nat.le_trans (Nat.add_le_add_right hk K9) hRm.2.2.2.2.1) (Nat.le_trans (Nat.add_le_add_right hn N9) hRm.2.2.2.2.2) (rRt_ok hA hs hm c3 rfl) hdg
      · cases h1
    · cases h1
  · split at h1
    · rename_i v hS
      split at h1
      · rename_i hc
        obtain ⟨rfl, c1, c2, c3⟩ := hc
        obtain ⟨x, rfl, hx⟩ := one hS
        obtain ⟨ty, e1, e2⟩ := hrc.2 (by omega)
        obtain ⟨z, rfl, hz⟩ := rMv_lng hx c2
        have : ty = .long := e2.2.1 c1
        subst this
        exact ys_lret C hlocks (hr.trans e1) (Nat.le_trans (Nat.add_le_add_right hk K9) hRm.2.2.2.2.1) (Nat.le_trans (Nat.add_le_add_right hn N9) hRm.2.2.2.2.2) (rRt_ok hA hs hm c3 rfl) hdg
      · cases h1
    · cases h1
  · split at h1
    · rename_i v hS
      split at h1
      · rename_i hc
        obtain ⟨rfl, c1, c2, c3⟩ := hc
        obtain ⟨x, rfl, hx⟩ := one hS
        obtain ⟨ty, e1, e2⟩ := hrc.2 (by omega)
        subst c1
        have hv : x = .null ∨ ∃ a, x = .ref a := by
          have h3 := rsort_ok hx
          unfold rsort at h3
          rw [if_neg (by omega), if_neg (by omega)] at h3
          cases x <;> simp only [xsort] at h3 <;> first | (exact absurd h3 (by decide)) | exact Or.inl rfl | exact Or.inr ⟨_, rfl⟩
        exact ys_aret C hlocks (hr.trans e1) (e2.2.2.2.2 rfl) hv (Nat.le_trans (Nat.add_le_add_right hk K9) hRm.2.2.2.2.1) (Nat.le_trans (Nat.add_le_add_right hn N9) hRm.2.2.2.2.2) (rRt_ok hA hs hm c3 rfl) hdg
      · cases h1
    · cases h1
  · split at h1
    · rename_i hS
      split at h1
      · rename_i hc
        obtain ⟨rfl, c1, c3⟩ := hc
        have h3 := hA.2.2.1
        rw [hS] at h3
        cases st with
        | nil => exact ys_vret C hlocks (hr.trans (hrc.1 c1)) (Nat.le_trans (Nat.add_le_add_right hk K9) hRm.2.2.2.2.1) (Nat.le_trans (Nat.add_le_add_right hn N9) hRm.2.2.2.2.2) (rRt_ok hA hs hm c3 rfl) hdg
        | cons _ _ => exact h3.elim
      · cases h1
    · cases h1
  · cases h1
theorem rsY_ok (C : xCx p s m args c cc nL Ts own D dA cl tA tyf B) (hE : xEnv D dA cl tA B nw nc ao s) (hlocks : meth.locks = false) (hRm : rRmo own9 R0 K9 N9 kc9 kn9) (hnt : ∀ x ∈ c.exceptionTable.toList, False) (hl0 : l.stackTraces = false) {x ik ic : Nat} {X : String} (hX : xn[x]? = some X) (hcls : Bundle.fit X = true) (hw1 : Cond.classLink own ik X ∈ Ts) (hw2 : Cond.initialized X ∈ Ts) (hat : ∀ w ∈ vx_at0 own ic X aChain, w ∈ Ts ∨ w ∈ nw) (hgood : ∀ w ∈ Cond.classLink own ik X :: Cond.initialized X :: vx_at0 own ic X aChain, vx_ot w = true) (d0 : decode cc pc = .ok (.new ik, 3)) (d3 : decode cc (pc + 3) = .ok (.dup, 1)) (d4 : decode cc (pc + 4) = .ok (.invokespecial ic, 3)) (d7 : decode cc (pc + 7) = .ok (.athrow, 1)) (hA : rSt W T B A b own9.2.2.2.1 ρ γ σ lv st h) (hs : (∀ k, k < own9.2.2.1.1.length → ρ k = ρ0 k) ∧ γ 0 = γ0 0) (hm : own9.2.2.1.1.length ≤ σ.1.length) (h1 : rTw W T own9 σ x = true) : xSafe p l e R0 s m args below meth c nL D dA cl tA B (yEnd below args s D dA cl tA B (rQf W T B A b ρ0 γ0 own9) (rXf W T B A b ρ0 γ0 xn own9) kc9 kn9 R0.cells R0.slots) pc lv st h (σ.2.2.2.2.2.2.1 + K9) (σ.2.2.2.2.2.2.2 + N9) := by
  simp only [rTw, Bool.and_eq_true] at h1
  obtain ⟨⟨⟨⟨g1, g2⟩, g3⟩, g4⟩, g5⟩ := h1
  obtain ⟨w1, w2, w3, w4, w5, w6⟩ := hRm
  have g1 : 5 < own9.2.1.1 := (Nat.blt_eq).mp g1
  have g2 := Nat.le_of_ble_eq_true g2
  have g3 : σ.2.2.2.2.2.2.1 + 1 ≤ own9.2.1.2.1 := Nat.le_of_ble_eq_true g3
  have g3 : σ.2.2.2.2.2.2.1 + K9 + 1 ≤ R0.cells := by omega
  have g4 : σ.2.2.2.2.2.2.2 + 6 ≤ own9.2.1.2.2.1 := Nat.le_of_ble_eq_true g4
  have g4 : σ.2.2.2.2.2.2.2 + N9 + 6 ≤ R0.slots := by omega
  have hA2 : rSt W T B A b own9.2.2.2.1 ρ γ (σ.1, σ.2.1, [], [], σ.2.2.2.2.1, σ.2.2.2.2.2.1, σ.2.2.2.2.2.2.1 + 1, σ.2.2.2.2.2.2.2 + 6) [] [] h := ⟨hA.1, (fun q hq => by cases hq), trivial, hA.2.2.2⟩
  refine ys_throw C hE hlocks hnt hl0 (names := aChain) hcls (by decide +kernel) hw1 hw2 hat hgood d0 d3 d4 d7 (by show 2 + 3 < _; omega) ?_ g3 g4 g3 g4 (rXo_ok hA2 hs hm hX g5)
  rw [rSum_ok hA.2.2.1]
  show _ + (13 * (2 + 1) + 42) ≤ R0.locals
  omega
theorem rThr_ok (C : xCx p s m args c cc nL Ts own D dA cl tA tyf B) (hE : xEnv D dA cl tA B nw nc ao s) (hlocks : meth.locks = false) (hRm : rRmo own9 R0 K9 N9 kc9 kn9) (hH : aHg own Ts xn nw nc c hs9) {x : Nat} {X : String} (hX : xn[x]? = some X) (hA : rSt W T B A b own9.2.2.2.1 ρ γ (rWS σ []) lv [] h) (hs : (∀ k, k < own9.2.2.1.1.length → ρ k = ρ0 k) ∧ γ 0 = γ0 0) (hm : own9.2.2.1.1.length ≤ σ.1.length) (hk : σ.2.2.2.2.2.2.1 + K9 ≤ R0.cells) (hn : σ.2.2.2.2.2.2.2 + N9 ≤ R0.slots)
    (h1 : rThr W T own9 hs9 (rWS σ []) pc x = some l1) (kk : ∀ q ∈ l1, ∀ (lv_q : List (Nat × Value)) (st_q : List Value) (h_q : xH), rSt W T B A b own9.2.2.2.1 ρ γ q.2 lv_q st_q h_q → xSafe p l e R0 s m args below meth c nL D dA cl tA B (yEnd below args s D dA cl tA B (rQf W T B A b ρ0 γ0 own9) (rXf W T B A b ρ0 γ0 xn own9) kc9 kn9 R0.cells R0.slots) q.1 lv_q st_q h_q (q.2.2.2.2.2.2.2.1 + K9) (q.2.2.2.2.2.2.2.2 + N9)) : xThr p l e R0 s m args below meth c nL D dA cl tA B (yEnd below args s D dA cl tA B (rQf W T B A b ρ0 γ0 own9) (rXf W T B A b ρ0 γ0 xn own9) kc9 kn9 R0.cells R0.slots) pc lv st X h (σ.2.2.2.2.2.2.1 + K9) (σ.2.2.2.2.2.2.2 + N9) := by
  unfold rThr at h1
  split at h1
  · rename_i hp hh
    cases h1
    obtain ⟨pre, q, suf, e1, ⟨e2, e3, e4⟩, e5, e6⟩ := aHd_at hh
    have hq : q ∈ hs9 := by rw [e1]; simp
    obtain ⟨g1, nm, g2, g3, g4, g5⟩ := hH.2 q hq
    rw [e4, hX] at g2
    cases g2
    have hcov : ∀ z : Nat × Nat × Nat × Nat × Nat, covers (⟨z.1, z.2.1, z.2.2.1, z.2.2.2.1⟩ : ExceptionTableEntry) pc = (decide (z.1 ≤ pc) && decide (pc < z.2.1)) := fun z => rfl
    refine xt_catch C hE (name := X) (pre.map (fun z => (⟨z.1, z.2.1, z.2.2.1, z.2.2.2.1⟩ : ExceptionTableEntry))) ⟨q.1, q.2.1, q.2.2.1, q.2.2.2.1⟩ (suf.map (fun z => (⟨z.1, z.2.1, z.2.2.1, z.2.2.2.1⟩ : ExceptionTableEntry))) ?_ ?_ ?_ g1 g3 g4 (fun a => ?_)
    · rw [hH.1, e1]
      simp [tableOf]
      rfl
    · intro z hz
      obtain ⟨z_q, hz_q, rfl⟩ := List.mem_map.mp hz
      rw [hcov]
      by_cases hc : z_q.1 ≤ pc ∧ pc < z_q.2.1
      · have hne : z_q.2.2.2.2 ≠ x := fun q => e6 z_q hz_q ⟨hc.1, hc.2, q⟩
        obtain ⟨f1, nm_q, f2, f3, f4, f5⟩ := hH.2 z_q (by rw [e1]; simp [hz_q])
        exact Or.inr ⟨f1, nm_q, f3, f5 x X hX (Ne.symm hne)⟩
      · left
        simp only [Bool.and_eq_false_iff, decide_eq_false_iff_not]
        omega
    · rw [hcov]
      simp [e2, e3]
    · show xSafe p l e R0 s m args below meth c nL D dA cl tA B (yEnd below args s D dA cl tA B (rQf W T B A b ρ0 γ0 own9) (rXf W T B A b ρ0 γ0 xn own9) kc9 kn9 R0.cells R0.slots) q.2.2.1 lv [.ref a] h _ _
      rw [← e5]
      exact kk _ List.mem_cons_self lv [.ref a] h ⟨hA.1, hA.2.1, ⟨⟨a, rfl⟩, trivial⟩, hA.2.2.2⟩
  · split at h1
    · rename_i hc
      have hnil : hs9 = [] := by simpa using hc.1
      have hnt : ∀ z ∈ c.exceptionTable.toList, False := fun z hz => by
        rw [hH.1, hnil] at hz
        simp [tableOf] at hz
      have hA2 : rSt W T B A b own9.2.2.2.1 ρ γ (rNoL (rWS σ []) []) [] [] h := ⟨hA.1, (fun q hq => by cases hq), trivial, hA.2.2.2⟩
      exact yt_out hlocks hnt hk hn (rXo_ok hA2 hs hm hX hc.2)
    · cases h1
/-- **what comes behind a call, by the callee's contract** -/
theorem rBehind_ok (C : xCx p s m args c cc nL Ts own D dA cl tA tyf B) (hE : xEnv D dA cl tA B nw nc ao s) (hlocks : meth.locks = false) (hRm : rRmo own9 R0 K9 N9 kc9 kn9) (hH : aHg own Ts xn nw nc c hs9) {s9 : List rX} {γE : Nat → rHp} {ρE : Nat → Int} (hA : rSt W T B A b own9.2.2.2.1 ρ γ σ lv st h) (hl : s9.length = I.2.2.1.1.length) (hρE : ρE = rVs ρ s9) (hγE : γE 0 = γ σ.2.2.2.2.1.length) (hs : (∀ k, k < own9.2.2.1.1.length → ρ k = ρ0 k) ∧ γ 0 = γ0 0) (hm : own9.2.2.1.1.length ≤ σ.1.length)
    (hrm : σ.2.2.2.2.2.2.1 + K9 + (rIr I).cells ≤ R0.cells ∧ σ.2.2.2.2.2.2.2 + N9 + (rIr I).slots ≤ R0.slots) (h1 : rBehind W T own9 hs9 σ s9 I pc = some l1) (kk : (∀ q ∈ l1, ∀ (ρ_q : Nat → Int) (γ_q : Nat → rHp) (lv_q : List (Nat × Value)) (st_q : List Value) (h_q : xH), rSm0 σ ρ ρ_q γ γ_q → rSt W T B A b own9.2.2.2.1 ρ_q γ_q q.2 lv_q st_q h_q → xSafe p l e R0 s m args below meth c nL D dA cl tA B (yEnd below args s D dA cl tA B (rQf W T B A b ρ0 γ0 own9) (rXf W T B A b ρ0 γ0 xn own9) kc9 kn9 R0.cells R0.slots) q.1 lv_q st_q h_q (q.2.2.2.2.2.2.2.1 + K9) (q.2.2.2.2.2.2.2.2 + N9))) :
    (∀ (v : Option Value) (h_q : xH), rQf W T B A b ρE γE I v h_q → xSafe p l e R0 s m args below meth c nL D dA cl tA B (yEnd below args s D dA cl tA B (rQf W T B A b ρ0 γ0 own9) (rXf W T B A b ρ0 γ0 xn own9) kc9 kn9 R0.cells R0.slots) (pc + 3) lv (v.toList ++ st) h_q (σ.2.2.2.2.2.2.1 + K9 + I.2.1.2.2.2.2.1) (σ.2.2.2.2.2.2.2 + N9 + I.2.1.2.2.2.2.2)) ∧
    (∀ (X : String) (h_q : xH), rXf W T B A b ρE γE xn I X h_q → xThr p l e R0 s m args below meth c nL D dA cl tA B (yEnd below args s D dA cl tA B (rQf W T B A b ρ0 γ0 own9) (rXf W T B A b ρ0 γ0 xn own9) kc9 kn9 R0.cells R0.slots) pc lv st X h_q (σ.2.2.2.2.2.2.1 + K9 + (rIr I).cells) (σ.2.2.2.2.2.2.2 + N9 + (rIr I).slots)) := by
  unfold rBehind at h1
  split at h1
  · rename_i hce
    obtain ⟨k1, k2, k3, k4⟩ := hce
    have hall := aAll_in h1
    have cnt : ∀ {dk dn : Nat} {E σ2 : rS}, rAf dk dn σ s9 I E = some σ2 → σ2.2.2.2.2.2.2.1 = σ.2.2.2.2.2.2.1 + dk ∧ σ2.2.2.2.2.2.2.2 = σ.2.2.2.2.2.2.2 + dn ∧ σ.1.length ≤ σ2.1.length := by
      intro dk dn E σ2 a1
      unfold rAf at a1
      split at a1
      · rename_i q d e1 e2
        cases a1
        refine ⟨rfl, rfl, ?_⟩
        have : ∀ (xs : List rX) (R : aRg) (Γ : List rX) (q : aRg × List rX), rAsL R Γ xs = some q → q.1.length = R.length := by
          intro xs
          induction xs with
          | nil => intro R Γ q hq; cases hq; rfl
          | cons x xs ih =>
            intro R Γ q hq
            simp only [rAsL] at hq
            split at hq
            · rename_i z hz
              rw [ih _ _ _ hq]
              rw [rAs_eq] at hz
              unfold rAs0 at hz
              split at hz
              · split at hz <;> cases hz; rfl
              · split at hz
                · split at hz <;> cases hz; simp
                · split at hz
                  · split at hz <;> cases hz; simp
                  · cases hz; rfl
              · split at hz
                · cases hz; rfl
                · split at hz <;> cases hz; rfl
            · cases hq
        rw [this _ _ _ _ e1]
        simp
      · cases a1
    refine ⟨fun v h_q hq => ?_, fun X h_q hq => ?_⟩
    · obtain ⟨E, hE1, ρ_q, γ_q, g1, g2, g3⟩ := hq
      obtain ⟨σ2, a1, ρ2, γ2, a2, a3⟩ := rAf_ok hA k3 k4 hl (List.all_eq_true.mp k1 E hE1) (fun k hk => by rw [g1 k hk, hρE]) (g2.trans hγE) g3
      obtain ⟨x1, b1, b2⟩ := hall _ (List.mem_append_left _ (List.mem_map.mpr ⟨E, hE1, rfl⟩))
      rw [a1] at b1
      cases b1
      have := kk _ (b2 _ List.mem_cons_self) ρ2 γ2 lv _ h_q a2 a3
      rw [(cnt a1).1, (cnt a1).2.1, Nat.add_right_comm _ _ K9, Nat.add_right_comm _ _ N9] at this
      exact this
    · obtain ⟨q, hq1, hX, ρ_q, γ_q, g1, g2, g3⟩ := hq
      obtain ⟨σ2, a1, ρ2, γ2, a2, a3⟩ := rAf_ok hA k3 k4 hl (List.all_eq_true.mp k2 q hq1) (fun k hk => by rw [g1 k hk, hρE]) (g2.trans hγE) g3
      obtain ⟨x1, b1, b2⟩ := hall _ (List.mem_append_right _ (List.mem_map.mpr ⟨q, hq1, rfl⟩))
      rw [a1] at b1
      have a4 : rSt W T B A b own9.2.2.2.1 ρ2 γ2 (rWS σ2 []) lv [] h_q := ⟨a3.1, a3.2.1, trivial, a3.2.2.2⟩
      have hs2 : (∀ k, k < own9.2.2.1.1.length → ρ2 k = ρ0 k) ∧ γ2 0 = γ0 0 := ⟨fun k hk => (a2.1 k (by omega)).trans (hs.1 k hk), (a2.2 0 (Nat.zero_le _)).trans hs.2⟩
      have := rThr_ok C hE hlocks hRm hH (st := st) (σ := σ2) hX a4 hs2 (by have := (cnt a1).2.2; omega) (by rw [(cnt a1).1, Nat.add_right_comm]; exact hrm.1) (by rw [(cnt a1).2.1, Nat.add_right_comm]; exact hrm.2) b1 (fun z hz lv_q st_q h9 hz2 => kk z (b2 z hz) ρ2 γ2 lv_q st_q h9 a2 hz2)
      rw [(cnt a1).1, (cnt a1).2.1, Nat.add_right_comm _ _ K9, Nat.add_right_comm _ _ N9] at this
      exact this
  · cases h1
theorem rsV_ok (C : xCx p s m args c cc nL Ts own D dA cl tA tyf B) (hE : xEnv D dA cl tA B nw nc ao s) (hlocks : meth.locks = false) (hRm : rRmo own9 R0 K9 N9 kc9 kn9) (hH : aHg own Ts xn nw nc c hs9) (hJ : ∀ (n : Nat) (I : rI), J[n]? = some I → ∀ d : aMd, mth[I.1]? = some d → rMt D dA cl tA B nw nc ao W0 l W T A b xn d.1 (aCw d) I) (hIv : ∀ q ∈ iv, aIg own Ts cl nw W0 mth mx q)
    (hA : rSt W T B A b own9.2.2.2.1 ρ γ σ lv st h) (hs : (∀ k, k < own9.2.2.1.1.length → ρ k = ρ0 k) ∧ γ 0 = γ0 0) (hm : own9.2.2.1.1.length ≤ σ.1.length) (hdg : decode cc pc = .ok (i, len)) (h1 : rsV mx W T own9 hs9 J iv σ i len pc = some l1) (kk : (∀ q ∈ l1, ∀ (ρ_q : Nat → Int) (γ_q : Nat → rHp) (lv_q : List (Nat × Value)) (st_q : List Value) (h_q : xH), rSm0 σ ρ ρ_q γ γ_q → rSt W T B A b own9.2.2.2.1 ρ_q γ_q q.2 lv_q st_q h_q → xSafe p l e R0 s m args below meth c nL D dA cl tA B (yEnd below args s D dA cl tA B (rQf W T B A b ρ0 γ0 own9) (rXf W T B A b ρ0 γ0 xn own9) kc9 kn9 R0.cells R0.slots) q.1 lv_q st_q h_q (q.2.2.2.2.2.2.2.1 + K9) (q.2.2.2.2.2.2.2.2 + N9))) : xSafe p l e R0 s m args below meth c nL D dA cl tA B (yEnd below args s D dA cl tA B (rQf W T B A b ρ0 γ0 own9) (rXf W T B A b ρ0 γ0 xn own9) kc9 kn9 R0.cells R0.slots) pc lv st h (σ.2.2.2.2.2.2.1 + K9) (σ.2.2.2.2.2.2.2 + N9) := by
  unfold rsV at h1
  split at h1
  · rename_i t ht
    split at h1
    · rename_i q hq
      split at h1
      · rename_i hc0
        obtain ⟨rfl, hso⟩ := hc0
        have hsq : q.2.1 = 0 ∨ q.2.1 = 1 ∨ q.2.1 = 5 ∨ q.2.1 = 6 := by rcases hso with ⟨-, h⟩ | ⟨-, h⟩ <;> omega
        have hsort : q.2.1 ≠ 6 → aXs t.2 q.2.1 = true := fun h => by
          rcases hso with ⟨h9, -⟩ | ⟨-, h8⟩
          · exact h9
          · exact absurd h8 h
        have hqm := List.mem_of_find?_eq_some hq
        have hq1 : q.1 = t.1 := by simpa using List.find?_some hq
        have hg := hIv q hqm
        have hdi : (t.2 = 0 → i = .invokevirtual q.1) ∧ (t.2 = 1 → i = .invokestatic q.1) ∧ (t.2 = 2 → i = .invokespecial q.1) := by
          unfold aXx at ht
          split at ht <;> first | (cases ht; done) | skip
          · cases ht; rw [hq1]; exact ⟨fun _ => rfl, (fun q => by cases q), (fun q => by cases q)⟩
          · cases ht; rw [hq1]; exact ⟨(fun q => by cases q), fun _ => rfl, (fun q => by cases q)⟩
          · cases ht; rw [hq1]; exact ⟨(fun q => by cases q), (fun q => by cases q), fun _ => rfl⟩
        have h4 : ¬ q.2.1 = 4 := by omega
        unfold aIg at hg
        rw [if_neg h4] at hg
        obtain ⟨d, hd, hmx, hgi, hini, hg⟩ := hg
        obtain ⟨nn, hnn, h1⟩ := aFst_at h1
        unfold rTry at h1
        split at h1
        · rename_i I hJI
          split at h1
          · rename_i z hz
            obtain ⟨s9, σ9⟩ := z
            split at h1
            · rename_i hc
              obtain ⟨c1, c2, c3, c4, c5, c6, c7, c8⟩ := hc
              have hM := hJ nn I hJI d (by rw [c1]; exact hd)
              simp only [rRoomOk, Bool.and_eq_true] at c2
              obtain ⟨⟨⟨r1, r2⟩, r3⟩, r4⟩ := c2
              have r1 := Nat.le_of_ble_eq_true r1
              have r2 := Nat.le_of_ble_eq_true r2
              have r3 := Nat.le_of_ble_eq_true r3
              have r4 := Nat.le_of_ble_eq_true r4
              rw [c1, hmx] at r2
              have hrm : xRm R0 (σ.2.2.2.2.2.2.1 + K9) (σ.2.2.2.2.2.2.2 + N9) (rIr I) d.2.2.1 := ⟨Nat.le_trans r1 hRm.1, Nat.le_trans r2 hRm.2.2.2.1, (by have := hRm.2.1; show σ.2.2.2.2.2.2.1 + K9 + I.2.1.2.1 ≤ R0.cells; omega), (by have := hRm.2.2.1; show σ.2.2.2.2.2.2.2 + N9 + I.2.1.2.2.1 ≤ R0.slots; omega)⟩
              obtain ⟨k1, k2⟩ := rStk_cut q.2.2.1 hA.2.2.1
              have hA0 : rSt W T B A b own9.2.2.2.1 ρ γ (σ.1, σ.2.1, [], (σ.2.2.2.1.take q.2.2.1).reverse, σ.2.2.2.2.1, σ.2.2.2.2.2.1, 0, 0) [] (st.take q.2.2.1).reverse h := ⟨hA.1, (fun z hz => by cases hz), rStk_rev k1, hA.2.2.2⟩
              obtain ⟨ρ9, a1, a2, a3, a4, a5, a6, a7, a8, a9, a10⟩ := rMt0_ok hA0 hz
              have hin := (rCk_ok a3 c8).1
              have hA1 : rSt W T B A b own9.2.2.2.1 ρ9 γ (σ9.1, σ.2.1, σ.2.2.1, σ.2.2.2.1.drop q.2.2.1, σ.2.2.2.2.1, σ9.2.2.2.2.2.1, σ.2.2.2.2.2.2) lv (st.drop q.2.2.1) h := by
                obtain ⟨l1, l2⟩ := rLs_loc (W := W) (A := A) (b := b) (lv := lv) (st := st.drop q.2.2.1) a10 hA.2.1 k2
                refine ⟨?_, l1, l2, hA.2.2.2⟩
                have := a3.1
                rw [a4, a8] at this
                exact this
              have hlv : ∀ {P : rS} {lv_q : List (Nat × Value)}, P.2.2.1.isEmpty = true → rLoc W A (rVs ρ9 s9) b P.2.2.1 lv_q := fun he q hq => by
                rw [List.isEmpty_iff.mp he] at hq
                cases hq
              have hcon := hM _ _ _ _ hin
              have hγ9 : rGv γ σ9.2.2.2.2.1.length 0 0 = γ σ.2.2.2.2.1.length := by
                rw [a4]
                rfl
              have hs2 : (∀ k, k < own9.2.2.1.1.length → ρ9 k = ρ0 k) ∧ γ 0 = γ0 0 := ⟨fun k hk => (a1 k (by show k < σ.1.length; omega)).trans (hs.1 k hk), hs.2⟩
              have a2_q : σ.1.length ≤ σ9.1.length := a2
              obtain ⟨kr, kx⟩ := rBehind_ok C hE hlocks hRm hH (σ := (σ9.1, σ.2.1, σ.2.2.1, σ.2.2.2.1.drop q.2.2.1, σ.2.2.2.2.1, σ9.2.2.2.2.2.1, σ.2.2.2.2.2.2)) hA1 a9 rfl hγ9 hs2 (by show _ ≤ σ9.1.length; omega) ⟨hrm.2.2.1, hrm.2.2.2⟩ h1 (fun z hz ρ_q γ_q lv_q st_q h_q g1 g2 => kk z hz ρ_q γ_q lv_q st_q h_q ⟨fun k hk => (g1.1 k (by show k < σ9.1.length; omega)).trans (a1 k hk), g1.2⟩ g2)
              have hlen : (st.take q.2.2.1).reverse.length = q.2.2.1 := by
                have := rStk_len hA.2.2.1
                simp
                omega
              have hsum : ((st.drop q.2.2.1).map fun v => v.category).sum ≤ 8 := by
                rw [rSum_ok k2]
                exact c4
              have hst : st = (st.take q.2.2.1).reverse.reverse ++ st.drop q.2.2.1 := by simp
              have hrecv : q.2.1 = 0 → ∃ a As N V, (st.take q.2.2.1).reverse = .ref a :: As ∧ h a = some (q.2.2.2.1, N, V) := by
                intro hk0
                have hrc := c5 hk0
                have k0 := hA0.2.2.1
                dsimp only at k0
                unfold rRcv at hrc
                split at hrc
                · rename_i v0 U hUe
                  rw [hUe] at k0
                  obtain ⟨x0, As, e0, k0, -⟩ := rStk_cons k0
                  simp only [Bool.and_eq_true] at hrc
                  obtain ⟨rfl, g_q, f1, f2, f3⟩ := rMv_ref k0 (Nat.eq_of_beq_eq_true hrc.1)
                  obtain ⟨-, V, l2, -⟩ := hA.2.2.2 v0.2.1 g_q f1 _ f2 f3
                  have hrc2 := hrc.2
                  rw [f1] at hrc2
                  rw [Nat.eq_of_beq_eq_true hrc2] at l2
                  exact ⟨_, As, _, V, e0, l2⟩
                · cases hrc
              have hnoX : q.2.1 = 5 ∨ q.2.1 = 6 → ∀ r9 g9, rXf W T B A b r9 g9 xn I = fun _ _ => False := by
                intro hk0 r9 g9
                have h7 := (c6 hk0).1
                funext X h8
                apply eq_false
                rintro ⟨z, hz, -⟩
                rw [List.isEmpty_iff.mp h7] at hz
                cases hz
              generalize (st.take q.2.2.1).reverse = av at *
              generalize st.drop q.2.2.1 = st1 at *
              subst hst
              split at hg
              · rename_i hk0
                obtain ⟨g0, g1, g2, g3, ⟨r, g4, g5⟩, g6, g7⟩ := hg
                have hi := hdi.1 (by have h9 := hsort (by omega); rw [hk0] at h9; exact Nat.eq_of_beq_eq_true h9)
                subst hi
                have hcw : aCw d = .code d.1 d.2.1 d.2.2.1 d.2.2.2.1 := by unfold aCw; rw [if_pos g0]
                rw [hcw] at hcon hgi
                obtain ⟨a, As, N, V, rfl, hha⟩ := hrecv hk0
                have hlA : As.length = q.2.2.1 - 1 := by simp at hlen; omega
                have := ys_callV C hE hcon hgi g1 g2 g3 hini g7 hlA g4 g5 hha hrm hsum hdg kr kx
                rw [List.reverse_cons, List.append_assoc]
                exact this
              · rename_i hk0
                obtain ⟨g0, g1, g2, g7⟩ := hg
                have hi := hdi.2.1 (by have h9 := hsort (by omega); rw [hk0] at h9; exact Nat.eq_of_beq_eq_true h9)
                subst hi
                have hcw : aCw d = .code d.1 d.2.1 d.2.2.1 d.2.2.2.1 := by unfold aCw; rw [if_pos g0]
                rw [hcw] at hcon hgi
                exact ys_callS C hE hcon hgi g1 g2 hini g7 hlen hrm hsum hdg kr kx
              · rename_i hk0
                omega
              · rename_i hk0
                omega
              · rename_i hk0
                obtain ⟨g0, g1, g2, g7⟩ := hg
                have hi := hdi.2.1 (by have h9 := hsort (by omega); rw [hk0] at h9; exact Nat.eq_of_beq_eq_true h9)
                subst hi
                have hcw : aCw d = .codeWith d.1 d.2.1 d.2.2.1 d.2.2.2.1 d.2.2.2.2 := by unfold aCw; rw [if_neg g0]
                rw [hcw] at hcon hgi
                rw [hnoX (Or.inl hk0)] at hcon
                have e1 : I.2.1.2.2.2.2.1 = (rIr I).cells := (c6 (Or.inl hk0)).2.1
                have e2 : I.2.1.2.2.2.2.2 = (rIr I).slots := (c6 (Or.inl hk0)).2.2
                rw [e1, e2] at hcon kr
                exact ys_callSW C hE hcon hgi g1 g2 hini g7 hlen hrm hsum hdg kr
              · rename_i hk0
                obtain ⟨g0, ⟨host, g1⟩, g2, g7⟩ := hg
                have hi := hdi.2.1 (by rcases hso with ⟨-, h8⟩ | ⟨h9, -⟩; omega; exact h9)
                subst hi
                have hcw : aCw d = .code d.1 d.2.1 d.2.2.1 d.2.2.2.1 := by unfold aCw; rw [if_pos g0]
                rw [hcw] at hcon hgi
                rw [hnoX (Or.inr hk0)] at hcon
                have e1 : I.2.1.2.2.2.2.1 = (rIr I).cells := (c6 (Or.inr hk0)).2.1
                have e2 : I.2.1.2.2.2.2.2 = (rIr I).slots := (c6 (Or.inr hk0)).2.2
                rw [e1, e2] at hcon kr
                exact ys_callSN C hE hcon hgi g1 g2 hini g7 hlen hrm hsum hdg kr
              · exact hg.elim
            · cases h1
          · cases h1
        · cases h1
      · cases h1
    · cases h1
  · cases h1
end XEr
