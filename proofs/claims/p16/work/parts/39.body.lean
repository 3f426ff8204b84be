/-! ===== a body: hints, division, all steps ===== -/
/-- the state cut in two at a number -/
noncomputable def rC1 (σ : rS) (k : Nat) (z : Int) : List rS := match σ.2.2.2.1[k]? with
  | some v => (match rAs σ.1 σ.2.1 (rPl (rMu (-1) v.2.2) (z - 1)) with | some q => [rWG σ σ.2.2.2.1 q] | none => []) ++ (match rAs σ.1 σ.2.1 (rPl v.2.2 (-z)) with | some q => [rWG σ σ.2.2.2.1 q] | none => [])
  | none => [σ]
noncomputable def rCs (pc : Nat) : List (Nat × Nat × Int) → List rS → List rS
  | [], l => l
  | q :: r, l => rCs pc r (if q.1 = pc then l.flatMap (fun σ => rC1 σ q.2.1 q.2.2) else l)
section XCt
variable {W : List rGr} {T : List rIT} {B : Nat} {A : rA} {b : aSc} {i0 : List Nat} {ρ : Nat → Int} {γ : Nat → rHp} {lv : List (Nat × Value)} {st : List Value} {h : xH}
/-- the same but for ranges and facts -/
noncomputable def rLik (σ σ1 : rS) : Prop := σ1.1.length = σ.1.length ∧ σ1.2.2 = σ.2.2
theorem rC1_ok {σ : rS} {k : Nat} {z : Int} (hA : rSt W T B A b i0 ρ γ σ lv st h) : ∃ σ1 ∈ rC1 σ k z, rSt W T B A b i0 ρ γ σ1 lv st h ∧ rLik σ σ1 := by
  unfold rC1
  split
  · rename_i v hv
    by_cases hz : rE ρ v.2.2 ≤ z - 1
    · obtain ⟨q, e1, e2, e3, e4⟩ := rAs_ok hA.1.1 hA.1.2.1 (x := rPl (rMu (-1) v.2.2) (z - 1)) (by rw [rE_pl, rE_mu]; omega)
      rw [e1]
      exact ⟨_, List.mem_append_left _ List.mem_cons_self, ⟨⟨e2, e3, hA.1.2.2⟩, hA.2⟩, e4, rfl⟩
    · obtain ⟨q, e1, e2, e3, e4⟩ := rAs_ok hA.1.1 hA.1.2.1 (x := rPl v.2.2 (-z)) (by rw [rE_pl]; omega)
      rw [e1]
      exact ⟨_, List.mem_append_right _ List.mem_cons_self, ⟨⟨e2, e3, hA.1.2.2⟩, hA.2⟩, e4, rfl⟩
  · exact ⟨σ, List.mem_cons_self, hA, rfl, rfl⟩
theorem rCs_ok {pc : Nat} {σ : rS} : ∀ {qs : List (Nat × Nat × Int)} {l : List rS}, (∃ σ1 ∈ l, rSt W T B A b i0 ρ γ σ1 lv st h ∧ rLik σ σ1) → ∃ σ1 ∈ rCs pc qs l, rSt W T B A b i0 ρ γ σ1 lv st h ∧ rLik σ σ1
  | [], _, h1 => h1
  | q :: r, l, ⟨σ1, h1, h2, h3⟩ => by
    unfold rCs
    split
    · obtain ⟨σ2, g1, g2, g3⟩ := rC1_ok (k := q.2.1) (z := q.2.2) h2
      exact rCs_ok ⟨σ2, List.mem_flatMap.mpr ⟨σ1, h1, g1⟩, g2, g3.1.trans h3.1, g3.2.trans h3.2⟩
    · exact rCs_ok ⟨σ1, h1, h2, h3⟩
end XCt
noncomputable def rHl1 (σ : rS) (q : Nat × Nat × Int) : rX := if q.1 = 0 then (match σ.2.2.2.1[q.2.1]? with | some v => rMu q.2.2 v.2.2 | none => rC 0) else if q.1 = 1 then (match rgt σ.2.2.1 q.2.1 with | some v => rMu q.2.2 v.2.2 | none => rC 0) else if 100 ≤ q.1 then (match rGk σ.1 σ.2.1 σ.2.2.2.2.1 σ.2.2.2.2.2.1 (q.1 - 100) (rC 0) (rC (q.2.1 : Int)) with | some v => rMu q.2.2 v | none => rC 0) else rC q.2.2
noncomputable def rHl (σ : rS) : List (Nat × Nat × Int) → rX
  | [] => rC 0
  | q :: r => rAd (rHl1 σ q) (rHl σ r)
noncomputable def rHt (W : List rGr) (T : List rIT) (j0 : List Nat) (pc : Nat) : List rHn → rS → Option rS
  | [], σ => some σ
  | q :: r, σ => if q.1 = pc then (match T[q.2.1]?, rKn j0 q.2.1 σ.2.2.2.2.1 with
      | some iv, some n => (match rUs W σ.2.1 σ.2.2.2.2.1 n iv σ.1 σ.2.2.2.2.2.1 (rLs σ.2.2.1 σ.2.2.2.1) (q.2.2.map (rHl σ)) with
        | some z => rHt W T j0 pc r (z.1, z.2.1, σ.2.2.1, σ.2.2.2.1, σ.2.2.2.2.1, z.2.2, σ.2.2.2.2.2.2)
        | none => none)
      | _, _ => rHt W T j0 pc r σ) else rHt W T j0 pc r σ
theorem rHt_ok {W : List rGr} {T : List rIT} {B : Nat} {A : rA} {b : aSc} {i0 : List Nat} {γ : Nat → rHp} {lv : List (Nat × Value)} {st : List Value} {h : xH} {pc : Nat} : ∀ {qs : List rHn} {ρ : Nat → Int} {σ : rS}, rSt W T B A b i0 ρ γ σ lv st h →
    ∃ σ1, rHt W T i0 pc qs σ = some σ1 ∧ ∃ ρ_q, rSm0 σ ρ ρ_q γ γ ∧ rSt W T B A b i0 ρ_q γ σ1 lv st h ∧ σ.1.length ≤ σ1.1.length ∧ σ1.2.2.2.2.1 = σ.2.2.2.2.1 ∧ σ1.2.2.2.2.2.2 = σ.2.2.2.2.2.2
  | [], ρ, σ, hA => ⟨σ, rfl, ρ, rSm0_rf, hA, Nat.le_refl _, rfl, rfl⟩
  | q :: r, ρ, σ, hA => by
    unfold rHt
    split
    · split
      · rename_i iv n hT hn
        obtain ⟨z, f1, ρ1, f2, f3, f4, f5⟩ := rUs_ok (ex := rLs σ.2.2.1 σ.2.2.2.1) (s := q.2.2.map (rHl σ)) hA.1 (rKn_ok hT hA.1.2.2.2.2.2 hA.1.2.2.1 hn)
        obtain ⟨l1, l2⟩ := rLs_loc (W := W) (A := A) (b := b) (lv := lv) (st := st) f5 hA.2.1 hA.2.2.1
        rw [f1]
        dsimp only
        obtain ⟨σ1, e1, ρ2, e2, e3, e4, e5, e6⟩ := rHt_ok (qs := r) (ρ := ρ1) (σ := (z.1, z.2.1, σ.2.2.1, σ.2.2.2.1, σ.2.2.2.2.1, z.2.2, σ.2.2.2.2.2.2)) ⟨f4, l1, l2, hA.2.2.2⟩
        exact ⟨σ1, e1, ρ2, ⟨fun k hk => (e2.1 k (by show k < z.1.length; omega)).trans (f2 k hk), e2.2⟩, e3, Nat.le_trans f3 e4, e5, e6⟩
      · exact rHt_ok hA
    · exact rHt_ok hA
/-- division of what is not below 0 by a constant -/
noncomputable def rsD (σ : rS) (i : Instr) (len pc : Nat) : Option (List (Nat × rS)) := match σ.2.2.2.1 with
  | d :: a :: S => (match (match i with | .idiv => some 0 | .ldiv => some 1 | _ => none : Option Nat) with
    | some t => if len = 1 ∧ a.1 = t ∧ d.1 = t ∧ d.2.2.1.isEmpty = true ∧ 1 ≤ d.2.2.2 ∧ rPv σ.1 σ.2.1 1 a.2.2 = true ∧ rWf σ S = true ∧ rWx σ.1.length a.2.2 = true ∧ a.2.2.1.isEmpty = false then
        (match rAsL (σ.1 ++ [(0, rHi σ.1 a.2.2 / d.2.2.2)]) σ.2.1 ([rSb a.2.2 (rMu d.2.2.2 (rSy σ.1.length)), rPl (rSb (rMu d.2.2.2 (rSy σ.1.length)) a.2.2) (d.2.2.2 - 1)] ++ (if 2 ≤ d.2.2.2 ∧ rPv σ.1 σ.2.1 1 (rPl a.2.2 (-1)) = true then [rPl (rSb a.2.2 (rSy σ.1.length)) (-1)] else [])) with
        | some q => some [(pc + 1, (q.1, q.2, σ.2.2.1, (t, 0, rSy σ.1.length) :: S, σ.2.2.2.2))]
        | none => some []) else none
    | none => none)
  | _ => none
noncomputable def rThw (W : List rGr) (T : List rIT) (own : rI) (Bd : aBd) (σ : rS) (pc : Nat) (q : Nat × Nat × Nat) : Option (List (Nat × rS)) :=
  if rF1 Bd.2.1 pc = some (.new q.2.1, 3) ∧ rF1 Bd.2.1 (pc + 3) = some (.dup, 1) ∧ rF1 Bd.2.1 (pc + 4) = some (.invokespecial q.2.2, 3) ∧ rF1 Bd.2.1 (pc + 7) = some (.athrow, 1) ∧ Bd.2.2.2.2.2.1.isEmpty = true ∧ rTw W T own σ q.1 = true then some [] else none
noncomputable def rNum : Value → Int
  | .int z => z.toInt
  | .long z => z.toInt
  | _ => 0
theorem rEn_num {A : rA} {t : rT} {k j d : Int} {x : Value} (h : rEn A t k j d x) (ht : t.1 = 0 ∨ t.1 = 1) : rNum x = d ∧ (∀ (t_q : rT) (k_q j_q : Int), t_q.1 = t.1 → rEn A t_q k_q j_q d x) ∧ fits (if t.1 = 0 then .int else .long) x = true ∧ ∀ a, x ≠ .ref a := by
  unfold rEn at h
  rcases ht with e | e
  · rw [e] at h
    obtain ⟨z, rfl, hz⟩ := h
    refine ⟨hz, fun t_q k_q j_q e_q => ?_, ?_, fun a q => by cases q⟩
    · unfold rEn
      rw [e_q, e]
      exact ⟨z, rfl, hz⟩
    · rw [if_pos e]
      rfl
  · rw [e] at h
    obtain ⟨z, rfl, hz⟩ := h
    refine ⟨hz, fun t_q k_q j_q e_q => ?_, ?_, fun a q => by cases q⟩
    · unfold rEn
      rw [e_q, e]
      exact ⟨z, rfl, hz⟩
    · rw [if_neg (by omega)]
      rfl
/-- may n values of the group g0 be laid into the group g1 -/
noncomputable def rUc (own : rI) (σ : rS) (S : List rV) (n dp dst sp src : rV) (g0 g1 : rGr) : Bool :=
  Nat.beq n.1 0 && Nat.beq dp.1 0 && Nat.beq dst.1 2 && Nat.beq sp.1 0 && Nat.beq src.1 2 && Nat.beq g1.1 g0.1 && Nat.beq (rTy g1 0).1 (rTy g0 0).1 && ((Nat.beq g0.1 1000 && Nat.beq (rTy g0 0).1 0) || (Nat.beq g0.1 1001 && Nat.beq (rTy g0 0).1 1)) &&
  decide ((rTy g1 0).2.1 ≤ (rTy g0 0).2.1) && decide ((rTy g0 0).2.2.1 ≤ (rTy g1 0).2.2.1) && rPv σ.1 σ.2.1 2 n.2.2 && rPv σ.1 σ.2.1 2 dp.2.2 && rPv σ.1 σ.2.1 2 sp.2.2 && rPv σ.1 σ.2.1 2 (rPl (rMu (-1) (rAd sp.2.2 n.2.2)) g0.2.1) && rPv σ.1 σ.2.1 2 (rPl (rMu (-1) (rAd dp.2.2 n.2.2)) g1.2.1) &&
  Nat.ble 1 own.2.1.1 && Nat.ble ((S.map rcat).sum + 18) own.2.1.2.2.2.1 && σ.2.2.2.2.2.1.all (fun q => Nat.ble q.1 σ.2.2.2.2.1.length)
noncomputable def rsU (W : List rGr) (own : rI) (cp : List Nat) (σ : rS) (i : Instr) (len pc : Nat) : Option (List (Nat × rS)) := match i with
  | .invokestatic idx => (match σ.2.2.2.1 with
    | n :: dp :: dst :: sp :: src :: S => (match W[src.2.1]?, W[dst.2.1]? with
      | some g0, some g1 => if (len = 3 ∧ 16 ≤ dst.2.1) ∧ cp.any (Nat.beq idx) = true ∧ rUc own σ S n dp dst sp src g0 g1 = true then some [(pc + 3, (σ.1, σ.2.1, σ.2.2.1, S, (1, (0, rC 0, rC 0, rC 0), Nat.shiftLeft 1 (2048 + dst.2.1), []) :: σ.2.2.2.2.1, σ.2.2.2.2.2))] else none
      | _, _ => none)
    | _ => none)
  | _ => none
noncomputable def rOne1 (sc : Bool) (mx : List Nat) (W : List rGr) (T : List rIT) (own : rI) (J : List rI) (Bd : aBd) (cp : List Nat) (σ : rS) (pc : Nat) (i : Instr) (len : Nat) : Option (List (Nat × rS)) :=
  aOr (rsL σ i len pc) (aOr (rs0 σ i len pc) (aOr (rsG W Bd.2.2.1 σ i len pc) (aOr (rsC σ (rF1 Bd.2.1 (pc + 1)) i len pc) (aOr (rsB σ i len pc) (aOr (rsD σ i len pc) (aOr (rs2 σ i len pc) (aOr (rsW Bd.1 σ i len pc) (aOr (rsP W Bd.2.2.1 σ i len pc)
  (aOr (rsA sc W σ i len pc) (aOr (rsT W σ i len pc) (aOr (rsI Bd.1 σ i len pc) (aOr (rsS σ i len pc) (aOr (rs1 σ i len pc) (aOr (rsK Bd.2.2.1 σ i len pc) (aOr (rsH sc W σ i len pc) (aOr (rsX σ i pc) (aOr (rsU W own cp σ i len pc)
  (aOr (rsV mx W T own Bd.2.2.2.2.2.1 J Bd.2.2.2.1 σ i len pc) (if σ.2.2.2.2.2.2.1 ≤ own.2.1.2.2.2.2.1 ∧ σ.2.2.2.2.2.2.2 ≤ own.2.1.2.2.2.2.2 then rsR W T own Bd.2.2.2.2.2.2 σ i len else none)))))))))))))))))))
noncomputable def rSp1 (sc : Bool) (mx : List Nat) (W : List rGr) (T : List rIT) (own : rI) (J : List rI) (Bd : rBd) (pc : Nat) (σ : rS) : Option (List (Nat × rS)) := match rHt W T own.2.2.2.1 pc Bd.2.1 σ with
  | none => some []
  | some σ1 => (match rF1 Bd.1.2.2.2.2.1 pc with
    | some q => rThw W T own Bd.1 σ1 pc q
    | none => (match rF1 Bd.1.2.1 pc with
      | some il => rOne1 sc mx W T own J Bd.1 Bd.2.2.2 σ1 pc il.1 il.2
      | none => none))
noncomputable def rSp (sc : Bool) (mx : List Nat) (W : List rGr) (T : List rIT) (own : rI) (J : List rI) (Bd : rBd) (σ : rS) (pc : Nat) : Option (List (Nat × rS)) := aAll ((rCs pc Bd.2.2.1 [σ]).map (rSp1 sc mx W T own J Bd pc))
section XOr
variable {p : Program} {l : Launch} {e : Env} {R0 : Room} {s : State} {m : MethodId} {args : Array Value} {below : List Frame} {meth : Method} {c : Code} {Q : State → Prop} {K9 N9 : Nat}
variable {cc : ByteArray} {nL : Nat} {Ts : List Cond} {own : String} {D : va_G} {dA : Nat → ClassId} {cl : List vw_C} {tA : List (Nat × FieldType)} {tyf : Nat → Nat → FieldType} {B : Nat}
variable {W : List rGr} {T : List rIT} {A : rA} {b : aSc} {i0 : List Nat} {ρ : Nat → Int} {γ : Nat → rHp} {σ : rS} {pc len : Nat} {lv : List (Nat × Value)} {st : List Value} {h : xH} {i : Instr} {l1 : List (Nat × rS)}
variable {kc9 kn9 : Nat} {own9 I : rI} {ρ0 : Nat → Int} {γ0 : Nat → rHp} {xn : List String} {nw : List Cond} {nc : List (String × String)} {ao : List String} {W0 : List Cond} {mth : List aMd} {mx : List Nat} {J : List rI} {hs9 : List (Nat × Nat × Nat × Nat × Nat)} {iv : List aIv}
variable {Bd : rBd}
theorem rsD_ok (C : xCx p s m args c cc nL Ts own D dA cl tA tyf B) (hA : rSt W T B A b i0 ρ γ σ lv st h) (hdg : decode cc pc = .ok (i, len)) (hs : rsD σ i len pc = some l1) (kk : (∀ q ∈ l1, ∀ (ρ_q : Nat → Int) (γ_q : Nat → rHp) (lv_q : List (Nat × Value)) (st_q : List Value) (h_q : xH), rSm0 σ ρ ρ_q γ γ_q → rSt W T B A b i0 ρ_q γ_q q.2 lv_q st_q h_q → xSafe p l e R0 s m args below meth c nL D dA cl tA B Q q.1 lv_q st_q h_q (q.2.2.2.2.2.2.2.1 + K9) (q.2.2.2.2.2.2.2.2 + N9))) : xSafe p l e R0 s m args below meth c nL D dA cl tA B Q pc lv st h (σ.2.2.2.2.2.2.1 + K9) (σ.2.2.2.2.2.2.2 + N9) := by
  unfold rsD at hs
  split at hs
  · rename_i d a S hS
    split at hs
    · rename_i t ht
      split at hs
      · rename_i hc
        obtain ⟨rfl, c1, c2, c3, c4, c5, c6, c7, -⟩ := hc
        have h3 := hA.2.2.1
        rw [hS] at h3
        obtain ⟨y, st_q, rfl, hy, h4⟩ := rStk_cons h3
        obtain ⟨x, st_q, rfl, hx, h5⟩ := rStk_cons h4
        have hA2 : rSt W T B A b i0 ρ γ (rWS σ S) lv st_q h := ⟨hA.1, hA.2.1, h5, hA.2.2.2⟩
        have hx0 := rPv_ok hA.1.1 hA.1.2.1 c5
        have hdc : rE ρ d.2.2 = d.2.2.2 := rE_cst c3
        have hhi := rHi_ok hA.1.1 (x := a.2.2)
        have hq0 : 0 ≤ rE ρ a.2.2 / d.2.2.2 := Int.ediv_nonneg hx0 (by omega)
        have hq1 : d.2.2.2 * (rE ρ a.2.2 / d.2.2.2) ≤ rE ρ a.2.2 := Int.mul_ediv_self_le (by omega)
        have hq2 : rE ρ a.2.2 < d.2.2.2 * (rE ρ a.2.2 / d.2.2.2) + d.2.2.2 := Int.lt_mul_ediv_self_add (by omega)
        have hq3 : rE ρ a.2.2 / d.2.2.2 ≤ rE ρ a.2.2 := Int.ediv_le_self _ hx0
        have hq4 : 2 ≤ d.2.2.2 → 1 ≤ rE ρ a.2.2 → rE ρ a.2.2 / d.2.2.2 ≤ rE ρ a.2.2 - 1 := fun h2 h1 => by
          have := Int.ediv_lt_self_of_pos_of_ne_one (x := rE ρ a.2.2) (y := d.2.2.2) (by omega) (by omega)
          omega
        obtain ⟨g1, g2⟩ := rSt_new (lo := 0) (hi := rHi σ.1 a.2.2 / d.2.2.2) (z := rE ρ a.2.2 / d.2.2.2) hA2 c6 hq0 (Int.ediv_le_ediv (by omega) hhi)
        have es : rE (aUp ρ σ.1.length (rE ρ a.2.2 / d.2.2.2)) (rSy σ.1.length) = rE ρ a.2.2 / d.2.2.2 := by rw [rE_sy, aUp_self]
        have ea : rE (aUp ρ σ.1.length (rE ρ a.2.2 / d.2.2.2)) a.2.2 = rE ρ a.2.2 := rE_same g2.1 c7
        obtain ⟨q, e1, e2, e3, e4⟩ := rAsL_ok (xs := [rSb a.2.2 (rMu d.2.2.2 (rSy σ.1.length)), rPl (rSb (rMu d.2.2.2 (rSy σ.1.length)) a.2.2) (d.2.2.2 - 1)] ++ (if 2 ≤ d.2.2.2 ∧ rPv σ.1 σ.2.1 1 (rPl a.2.2 (-1)) = true then [rPl (rSb a.2.2 (rSy σ.1.length)) (-1)] else [])) g1.1.1 g1.1.2.1 (fun z hz => by
          rcases List.mem_append.mp hz with hz | hz
          · simp only [List.mem_cons, List.not_mem_nil, or_false] at hz
            rcases hz with rfl | rfl
            · rw [rE_sb, rE_mu, es, ea]; omega
            · rw [rE_pl, rE_sb, rE_mu, es, ea]; omega
          · split at hz
            · rename_i hp
              rw [List.mem_singleton] at hz
              subst hz
              have := rPv_ok hA.1.1 hA.1.2.1 hp.2
              rw [rE_pl] at this
              have := hq4 hp.1 (by omega)
              rw [rE_pl, rE_sb, es, ea]
              omega
            · cases hz)
        rw [e1] at hs
        cases hs
        have fin : ∀ v : Value, rMv W A (aUp ρ σ.1.length (rE ρ a.2.2 / d.2.2.2)) b (t, 0, rSy σ.1.length) v → xop2 i x y = some v → xSafe p l e R0 s m args below meth c nL D dA cl tA B Q pc lv (y :: x :: st_q) h (σ.2.2.2.2.2.2.1 + K9) (σ.2.2.2.2.2.2.2 + N9) := fun v hv ho => xs_op2 C ho hdg (kk _ List.mem_cons_self _ γ lv (v :: st_q) h g2 ⟨⟨e2, e3, g1.1.2.2⟩, g1.2.1, ⟨hv, g1.2.2.1⟩, g1.2.2.2⟩)
        split at ht
        · cases ht
          obtain ⟨z, rfl, hz⟩ := rMv_int hx c1
          obtain ⟨w, rfl, hw⟩ := rMv_int hy c2
          rw [hdc] at hw
          have hw0 : ¬ w = 0 := fun q => by rw [q] at hw; simp at hw; omega
          have hzb := aI32 z
          refine fin (.int (z / w)) ⟨_, rfl, ?_⟩ (by simp only [xop2]; rw [if_neg hw0])
          show (z / w).toInt = rE (aUp ρ σ.1.length (rE ρ a.2.2 / d.2.2.2)) (rSy σ.1.length)
          rw [es, Int32.toInt_div, hz, hw, Int.tdiv_eq_ediv_of_nonneg hx0, aB32 (by omega) (by omega)]
        · cases ht
          obtain ⟨z, rfl, hz⟩ := rMv_lng hx c1
          obtain ⟨w, rfl, hw⟩ := rMv_lng hy c2
          rw [hdc] at hw
          have hw0 : ¬ w = 0 := fun q => by rw [q] at hw; simp at hw; omega
          have hzb := aI64 z
          refine fin (.long (z / w)) ⟨_, rfl, ?_⟩ (by simp only [xop2]; rw [if_neg hw0])
          show (z / w).toInt = rE (aUp ρ σ.1.length (rE ρ a.2.2 / d.2.2.2)) (rSy σ.1.length)
          rw [es, Int64.toInt_div, hz, hw, Int.tdiv_eq_ediv_of_nonneg hx0, aB64 (by omega) (by omega)]
        · cases ht
      · cases hs
    · cases hs
  · cases hs
theorem rsU_ok (C : xCx p s m args c cc nL Ts own D dA cl tA tyf B) (hRm : rRmo own9 R0 K9 N9 kc9 kn9) (hA : rSt W T B A b i0 ρ γ σ lv st h) (hdg : decode cc pc = .ok (i, len)) (h4 : tA.take 4 = [(1000, .int), (1001, .long), (1002, .byte), (1003, .boolean)]) {cp : List Nat} (hCp : ∀ x ∈ cp, xCpy own Ts x) (hI : rInj W A) (hs : rsU W own9 cp σ i len pc = some l1) (kk : (∀ q ∈ l1, ∀ (ρ_q : Nat → Int) (γ_q : Nat → rHp) (lv_q : List (Nat × Value)) (st_q : List Value) (h_q : xH), rSm0 σ ρ ρ_q γ γ_q → rSt W T B A b i0 ρ_q γ_q q.2 lv_q st_q h_q → xSafe p l e R0 s m args below meth c nL D dA cl tA B Q q.1 lv_q st_q h_q (q.2.2.2.2.2.2.2.1 + K9) (q.2.2.2.2.2.2.2.2 + N9))) : xSafe p l e R0 s m args below meth c nL D dA cl tA B Q pc lv st h (σ.2.2.2.2.2.2.1 + K9) (σ.2.2.2.2.2.2.2 + N9) := by
  unfold rsU at hs
  split at hs
  · rename_i idx
    split at hs
    · rename_i n dp dst sp src S hS
      split at hs
      · rename_i g0 g1 hg0 hg1
        split at hs
        · rename_i hc
          obtain ⟨⟨rfl, h16⟩, c1, c2⟩ := hc
          cases hs
          obtain ⟨idx_q, hx1, hx2⟩ := List.any_eq_true.mp c1
          have hx2 := Nat.eq_of_beq_eq_true hx2
          subst hx2
          simp only [rUc, Bool.and_eq_true, Bool.or_eq_true, decide_eq_true_eq] at c2
          obtain ⟨⟨⟨⟨⟨⟨⟨⟨⟨⟨⟨⟨⟨⟨⟨⟨⟨u1, u2⟩, u3⟩, u4⟩, u5⟩, u6⟩, u7⟩, u8⟩, u9⟩, v1⟩, v2⟩, v3⟩, v4⟩, v5⟩, v6⟩, v7⟩, v8⟩, v9⟩ := c2
          have u6 := Nat.eq_of_beq_eq_true u6
          have u7 := Nat.eq_of_beq_eq_true u7
          have v7 := Nat.le_of_ble_eq_true v7
          have v8 := Nat.le_of_ble_eq_true v8
          have v2 := rPv_ok hA.1.1 hA.1.2.1 v2
          have v3 := rPv_ok hA.1.1 hA.1.2.1 v3
          have v4 := rPv_ok hA.1.1 hA.1.2.1 v4
          have v5 := rPv_ok hA.1.1 hA.1.2.1 v5
          have v6 := rPv_ok hA.1.1 hA.1.2.1 v6
          rw [rE_pl, rE_mu, rE_ad] at v5 v6
          have h3 := hA.2.2.1
          rw [hS] at h3
          obtain ⟨x1, st1, rfl, hx1_q, h31⟩ := rStk_cons h3
          obtain ⟨x2, st2, rfl, hx2_q, h32⟩ := rStk_cons h31
          obtain ⟨x3, st3, rfl, hx3_q, h33⟩ := rStk_cons h32
          obtain ⟨x4, st4, rfl, hx4_q, h34⟩ := rStk_cons h33
          obtain ⟨x5, st_q, rfl, hx5_q, h35⟩ := rStk_cons h34
          obtain ⟨zn, rfl, hzn⟩ := rMv_int hx1_q (Nat.eq_of_beq_eq_true u1)
          obtain ⟨zd, rfl, hzd⟩ := rMv_int hx2_q (Nat.eq_of_beq_eq_true u2)
          obtain ⟨rfl, q1, e1, e2, e3⟩ := rMv_ref hx3_q (Nat.eq_of_beq_eq_true u3)
          cases hg1.symm.trans e1
          obtain ⟨zs, rfl, hzs⟩ := rMv_int hx4_q (Nat.eq_of_beq_eq_true u4)
          obtain ⟨rfl, q0, f1, f2, f3⟩ := rMv_ref hx5_q (Nat.eq_of_beq_eq_true u5)
          cases hg0.symm.trans f1
          obtain ⟨-, F, m2, m3⟩ := hA.2.2.2 src.2.1 g0 hg0 _ f2 f3
          obtain ⟨lB, G, l2, l3⟩ := hA.2.2.2 dst.2.1 g1 hg1 _ e2 e3
          have hneg : ∀ z : Int32, 0 ≤ z.toInt → ¬ z < 0 := fun z hz q => by
            have := Int32.lt_iff_toInt_lt.mp q
            simp at this
            omega
          have hclamp : ∀ z : Int32, 0 ≤ z.toInt → (z.toNatClampNeg : Int) = z.toInt := fun z hz => by
            unfold Int32.toNatClampNeg
            omega
          have w1 := hclamp zn (by omega)
          have w2 := hclamp zd (by omega)
          have w3 := hclamp zs (by omega)
          have g1000 : 1000 ≤ g0.1 := by
            rcases u8 with u8 | u8
            · rw [Nat.eq_of_beq_eq_true u8.1]; decide
            · rw [Nat.eq_of_beq_eq_true u8.1]; decide
          have ht0 : (rTy g0 0).1 = 0 ∨ (rTy g0 0).1 = 1 := by
            rcases u8 with u8 | u8
            · exact Or.inl (Nat.eq_of_beq_eq_true u8.2)
            · exact Or.inr (Nat.eq_of_beq_eq_true u8.2)
          have hty0 : ∀ j, rTy g0 j = rTy g0 0 := fun j => by simp only [rTy]; rw [if_neg (by omega), if_neg (by omega)]
          have hty1 : ∀ j, rTy g1 j = rTy g1 0 := fun j => by simp only [rTy]; rw [if_neg (by omega), if_neg (by omega)]
          have htA : (g0.1, (if (rTy g0 0).1 = 0 then FieldType.int else FieldType.long)) ∈ tA := by
            have hm : ∀ q, q ∈ tA.take 4 → q ∈ tA := fun q hq => List.mem_of_mem_take hq
            rw [h4] at hm
            rcases u8 with u8 | u8
            · rw [Nat.eq_of_beq_eq_true u8.1, if_pos (Nat.eq_of_beq_eq_true u8.2)]
              exact hm _ (by simp)
            · rw [Nat.eq_of_beq_eq_true u8.1, if_neg (by rw [Nat.eq_of_beq_eq_true u8.2]; decide)]
              exact hm _ (by simp)
          have hF : ∀ j : Nat, j < g0.2.1 → rNum (F j) = γ σ.2.2.2.2.1.length src.2.1 (rE ρ src.2.2) j ∧ (∀ (t_q : rT) (k_q j_q : Int), t_q.1 = (rTy g0 0).1 → rEn A t_q k_q j_q (γ σ.2.2.2.2.1.length src.2.1 (rE ρ src.2.2) j) (F j)) ∧ fits (if (rTy g0 0).1 = 0 then .int else .long) (F j) = true ∧ ∀ a, F j ≠ .ref a := fun j hj => by
            have := m3 j hj
            rw [hty0 j] at this
            exact rEn_num this ht0
          have hG : ∀ j : Nat, j < g1.2.1 → rNum (G j) = γ σ.2.2.2.2.1.length dst.2.1 (rE ρ dst.2.2) j := fun j hj => by
            have := l3 j hj
            rw [hty1 j] at this
            exact (rEn_num this (by rw [u7]; exact ht0)).1
          rw [u6] at l2
          refine xs_copy C (hCp _ hx1) htA (by split <;> rfl) m2 l2 lB (hneg zs (by omega)) (hneg zd (by omega)) (hneg zn (by omega)) (by omega) (by omega) (fun j hj => (hF j hj).2.2) (Nat.le_trans v7 hRm.1) ?_ hdg (fun G_q hG_q => ?_)
          · rw [rSum_ok h35]
            exact Nat.le_trans v8 hRm.2.2.2.1
          · let γn : rHp := fun G9 k9 j9 => if G9 = dst.2.1 ∧ k9 = rE ρ dst.2.2 ∧ 0 ≤ j9 ∧ j9.toNat < g1.2.1 then rNum (G_q j9.toNat) else γ σ.2.2.2.2.1.length G9 k9 j9
            have hs : ∀ q, q ≤ σ.2.2.2.2.1.length → aUp γ (σ.2.2.2.2.1.length + 1) γn q = γ q := fun q hq => aUp_ne _ _ (by omega)
            have hrg := hA.1.2.2.2.2.1 σ.2.2.2.2.1.length (Nat.le_refl _)
            refine kk _ List.mem_cons_self ρ (aUp γ (σ.2.2.2.2.1.length + 1) γn) lv _ _ ⟨fun _ _ => rfl, hs⟩ ⟨⟨hA.1.1, hA.1.2.1, ⟨?_, rCh_up hs hA.1.2.2.1⟩, ?_, ?_, ?_⟩, hA.2.1, h35, ?_⟩
            · unfold rD1
              rw [if_neg (by decide : ¬ (1 : Nat) = 0)]
              refine ⟨fun G9 k9 j9 hn9 => ?_, fun z hz => by cases hz⟩
              show aUp γ _ γn (σ.2.2.2.2.1.length + 1) _ _ _ = aUp γ _ γn σ.2.2.2.2.1.length _ _ _
              rw [aUp_self, hs _ (Nat.le_refl _)]
              show (if _ then _ else _) = _
              rw [if_neg]
              rintro ⟨rfl, -⟩
              exact hn9 (rMdP_one h16)
            · intro q hq
              have := Nat.le_of_ble_eq_true (List.all_eq_true.mp v9 q hq)
              rw [hs _ this]
              exact hA.1.2.2.2.1 q hq
            · intro q hq
              by_cases e : q = σ.2.2.2.2.1.length + 1
              · rw [e, aUp_self]
                intro G9 g9 hG9 k9 j9
                show _ ≤ (if _ then _ else _) ∧ (if _ then _ else _) ≤ _
                split
                · rename_i e4
                  obtain ⟨rfl, rfl, e5, e6⟩ := e4
                  cases hg1.symm.trans hG9
                  rw [hty1]
                  rcases hG_q j9.toNat with e7 | ⟨j_q, e7, e8⟩
                  · rw [e7, hG _ e6]
                    have := hrg dst.2.1 g1 hg1 (rE ρ dst.2.2) (j9.toNat : Int)
                    rw [Int.toNat_natCast, hty1] at this
                    exact this
                  · rw [e8, (hF _ e7).1]
                    have := hrg src.2.1 g0 hg0 (rE ρ src.2.2) (j_q : Int)
                    rw [Int.toNat_natCast, hty0] at this
                    omega
                · exact hrg G9 g9 hG9 k9 j9
              · rw [aUp_ne _ _ e]
                refine hA.1.2.2.2.2.1 q ?_
                have hq2 : q ≤ σ.2.2.2.2.1.length + 1 := hq
                show q ≤ σ.2.2.2.2.1.length
                omega
            · rw [hs _ (Nat.zero_le _)]
              exact hA.1.2.2.2.2.2
            · show rLay W B A (aUp γ _ γn (σ.2.2.2.2.1.length + 1)) _
              rw [aUp_self]
              intro G9 g9 hG9 k9 hk1 hk2
              obtain ⟨n1, V_q, n2, n3⟩ := hA.2.2.2 G9 g9 hG9 k9 hk1 hk2
              refine ⟨n1, ?_⟩
              by_cases e : A G9 k9 = A dst.2.1 (rE ρ dst.2.2)
              · obtain ⟨rfl, rfl⟩ := hI G9 dst.2.1 g9 g1 k9 (rE ρ dst.2.2) hG9 hg1 hk1 hk2 e2 e3 e
                cases hg1.symm.trans hG9
                refine ⟨G_q, by rw [u6]; simp [xput], fun j_q hj_q => ?_⟩
                show rEn A _ _ _ (if _ then _ else _) _
                rw [if_pos ⟨rfl, rfl, by omega, by rw [Int.toNat_natCast]; exact hj_q⟩, Int.toNat_natCast]
                rcases hG_q j_q with e7 | ⟨j2, e7, e8⟩
                · rw [e7, hG _ hj_q]
                  have := l3 j_q hj_q
                  exact this
                · rw [e8, (hF _ e7).1]
                  exact (hF _ e7).2.1 _ _ _ (by rw [hty1]; exact u7)
              · refine ⟨V_q, by simp only [xput]; rw [if_neg e]; exact n2, fun j_q hj_q => ?_⟩
                show rEn A _ _ _ (if _ then _ else _) _
                rw [if_neg]
                · exact n3 j_q hj_q
                · rintro ⟨rfl, rfl, -⟩
                  exact e rfl
        · cases hs
      · cases hs
    · cases hs
  · cases hs
theorem rSp1_ok (C : xCx p s m args c cc nL Ts own D dA cl tA tyf B) (hE : xEnv D dA cl tA B nw nc ao s) (hlocks : meth.locks = false) (hRm : rRmo own9 R0 K9 N9 kc9 kn9) (hl0 : l.stackTraces = false) (hJ : ∀ (n : Nat) (I : rI), J[n]? = some I → ∀ d : aMd, mth[I.1]? = some d → rMt D dA cl tA B nw nc ao W0 l W T A b xn d.1 (aCw d) I) (hBg : aBg own Ts cl tA tyf [] nw nc W0 mth mx xn b meth s c cc nL Bd.1) (hCp : ∀ x ∈ Bd.2.2.2, xCpy own Ts x) (hKt : ∀ g ∈ W, 1000 ≤ g.1 → ∃ ty, (g.1, ty) ∈ tA) (hI : rInj W A) {xs : Nat → Int32} {sc : Bool} (hX : sc = true → (va_X b.1 b.2.1 xs s s.heap ∧ b.1 < s.heap.size ∧ ¬ B ≤ b.1) ∧ ∀ j : Nat, j < b.2.1 → γ0 0 (W.length - 1) 0 (j : Int) = (xs j).toInt)
    (hA : rSt W T B A b own9.2.2.2.1 ρ γ σ lv st h) (hs : (∀ k, k < own9.2.2.1.1.length → ρ k = ρ0 k) ∧ γ 0 = γ0 0) (hm : own9.2.2.1.1.length ≤ σ.1.length) (h1 : rSp1 sc mx W T own9 J Bd pc σ = some l1) (kk : (∀ q ∈ l1, ∀ (ρ_q : Nat → Int) (γ_q : Nat → rHp) (lv_q : List (Nat × Value)) (st_q : List Value) (h_q : xH), rSm0 σ ρ ρ_q γ γ_q → rSt W T B A b own9.2.2.2.1 ρ_q γ_q q.2 lv_q st_q h_q → xSafe p l e R0 s m args below meth c nL D dA cl tA B (yEnd below args s D dA cl tA B (rQf W T B A b ρ0 γ0 own9) (rXf W T B A b ρ0 γ0 xn own9) kc9 kn9 R0.cells R0.slots) q.1 lv_q st_q h_q (q.2.2.2.2.2.2.2.1 + K9) (q.2.2.2.2.2.2.2.2 + N9))) : xSafe p l e R0 s m args below meth c nL D dA cl tA B (yEnd below args s D dA cl tA B (rQf W T B A b ρ0 γ0 own9) (rXf W T B A b ρ0 γ0 xn own9) kc9 kn9 R0.cells R0.slots) pc lv st h (σ.2.2.2.2.2.2.1 + K9) (σ.2.2.2.2.2.2.2 + N9) := by
  obtain ⟨b1, b2, b3, b4, b5, b6, b7, b8⟩ := hBg
  unfold rSp1 at h1
  obtain ⟨σ1, t1, ρ1, t2, hA1, t3, t4, t5⟩ := rHt_ok (pc := pc) (qs := Bd.2.1) hA
  rw [t1] at h1
  dsimp only at h1
  rw [show σ.2.2.2.2.2.2.1 = σ1.2.2.2.2.2.2.1 by rw [t5], show σ.2.2.2.2.2.2.2 = σ1.2.2.2.2.2.2.2 by rw [t5]]
  have hs1 : (∀ k, k < own9.2.2.1.1.length → ρ1 k = ρ0 k) ∧ γ 0 = γ0 0 := ⟨fun k hk => (t2.1 k (by omega)).trans (hs.1 k hk), hs.2⟩
  have hm1 : own9.2.2.1.1.length ≤ σ1.1.length := by omega
  have kk1 : ∀ q ∈ l1, ∀ (ρ_q : Nat → Int) (γ_q : Nat → rHp) (lv_q : List (Nat × Value)) (st_q : List Value) (h_q : xH), rSm0 σ1 ρ1 ρ_q γ γ_q → rSt W T B A b own9.2.2.2.1 ρ_q γ_q q.2 lv_q st_q h_q → xSafe p l e R0 s m args below meth c nL D dA cl tA B (yEnd below args s D dA cl tA B (rQf W T B A b ρ0 γ0 own9) (rXf W T B A b ρ0 γ0 xn own9) kc9 kn9 R0.cells R0.slots) q.1 lv_q st_q h_q (q.2.2.2.2.2.2.2.1 + K9) (q.2.2.2.2.2.2.2.2 + N9) := by
    intro q hq ρ_q γ_q lv_q st_q h_q g1 g2
    exact kk q hq ρ_q γ_q lv_q st_q h_q ⟨fun k hk => (g1.1 k (by omega)).trans (t2.1 k hk), fun n hn => g1.2 n (by rw [t4]; exact hn)⟩ g2
  clear kk hA hs hm t1 t5 t2 t3
  split at h1
  · rename_i q hq
    unfold rThw at h1
    split at h1
    · rename_i hc
      obtain ⟨d0, d3, d4, d7, e1, e2⟩ := hc
      obtain ⟨X, g1, g2, g3, g4, g5, g6⟩ := b6 _ (rF1_mem hq)
      have hnt : ∀ z ∈ c.exceptionTable.toList, False := fun z hz => by
        rw [b7.1, List.isEmpty_iff.mp e1] at hz
        simp [tableOf] at hz
      have f0 := b2 _ (rF1_mem d0)
      have f3 := b2 _ (rF1_mem d3)
      have f4 := b2 _ (rF1_mem d4)
      have f7 := b2 _ (rF1_mem d7)
      dsimp only at g1 g3 g5 g6 f0 f3 f4 f7
      exact rsY_ok (x := q.1) (ik := q.2.1) (ic := q.2.2) (X := X) C hE hlocks hRm hnt hl0 g1 g2 g3 g4 g5 g6 f0 f3 f4 f7 hA1 hs1 hm1 e2
    · cases h1
  · split at h1
    · rename_i il hil
      have hdg := b2 _ (rF1_mem hil)
      dsimp only at hdg
      unfold rOne1 at h1
      rcases aOr_at h1 with h1 | h1
      · exact rsL_ok C hA1 hdg h1 kk1
      rcases aOr_at h1 with h1 | h1
      · exact rs0_ok C hA1 hdg h1 kk1
      rcases aOr_at h1 with h1 | h1
      · exact rsG_ok C hA1 hdg b3 h1 kk1
      rcases aOr_at h1 with h1 | h1
      · exact rsC_ok C hA1 hdg (fun q hq => by
          have h8 := b2 _ (rF1_mem hq)
          dsimp only at h8
          exact h8) h1 kk1
      rcases aOr_at h1 with h1 | h1
      · exact rsB_ok C hA1 hdg h1 kk1
      rcases aOr_at h1 with h1 | h1
      · exact rsD_ok C hA1 hdg h1 kk1
      rcases aOr_at h1 with h1 | h1
      · exact rs2_ok C hA1 hdg h1 kk1
      rcases aOr_at h1 with h1 | h1
      · rw [b1] at h1; exact rsW_ok C hA1 hdg h1 kk1
      rcases aOr_at h1 with h1 | h1
      · exact rsP_ok C hA1 hdg b3 hI h1 kk1
      rcases aOr_at h1 with h1 | h1
      · exact rsA_ok C hA1 hdg b3 hKt (fun q => ⟨(hX q).1, by rw [hs1.2]; exact (hX q).2⟩) h1 kk1
      rcases aOr_at h1 with h1 | h1
      · exact rsT_ok C hA1 hdg b3 hKt hI h1 kk1
      rcases aOr_at h1 with h1 | h1
      · rw [b1] at h1; exact rsI_ok C hA1 hdg h1 kk1
      rcases aOr_at h1 with h1 | h1
      · exact rsS_ok C hA1 hdg h1 kk1
      rcases aOr_at h1 with h1 | h1
      · exact rs1_ok C hA1 hdg h1 kk1
      rcases aOr_at h1 with h1 | h1
      · exact rsK_ok C hA1 hdg b3 h1 kk1
      rcases aOr_at h1 with h1 | h1
      · exact rsH_ok C hA1 hdg b3 (fun q => (hX q).1) h1 kk1
      rcases aOr_at h1 with h1 | h1
      · exact rsX_ok C hA1 hdg h1 kk1
      rcases aOr_at h1 with h1 | h1
      · exact rsU_ok C hRm hA1 hdg b3.2.2.2.2.1.1 hCp hI h1 kk1
      rcases aOr_at h1 with h1 | h1
      · exact rsV_ok C hE hlocks hRm b7 hJ b5 hA1 hs1 hm1 hdg h1 kk1
      split at h1
      · rename_i h9
        exact rsR_ok C hlocks hRm rfl b8 hA1 hs1 hm1 h9.1 h9.2 hdg h1
      · cases h1
    · cases h1
theorem rSp_ok (C : xCx p s m args c cc nL Ts own D dA cl tA tyf B) (hE : xEnv D dA cl tA B nw nc ao s) (hlocks : meth.locks = false) (hRm : rRmo own9 R0 K9 N9 kc9 kn9) (hl0 : l.stackTraces = false) (hJ : ∀ (n : Nat) (I : rI), J[n]? = some I → ∀ d : aMd, mth[I.1]? = some d → rMt D dA cl tA B nw nc ao W0 l W T A b xn d.1 (aCw d) I) (hBg : aBg own Ts cl tA tyf [] nw nc W0 mth mx xn b meth s c cc nL Bd.1) (hCp : ∀ x ∈ Bd.2.2.2, xCpy own Ts x) (hKt : ∀ g ∈ W, 1000 ≤ g.1 → ∃ ty, (g.1, ty) ∈ tA) (hI : rInj W A) {xs : Nat → Int32} {sc : Bool} (hX : sc = true → (va_X b.1 b.2.1 xs s s.heap ∧ b.1 < s.heap.size ∧ ¬ B ≤ b.1) ∧ ∀ j : Nat, j < b.2.1 → γ0 0 (W.length - 1) 0 (j : Int) = (xs j).toInt)
    (hA : rSt W T B A b own9.2.2.2.1 ρ γ σ lv st h) (hs : (∀ k, k < own9.2.2.1.1.length → ρ k = ρ0 k) ∧ γ 0 = γ0 0) (hm : own9.2.2.1.1.length ≤ σ.1.length) (h1 : rSp sc mx W T own9 J Bd σ pc = some l1) (kk : (∀ q ∈ l1, ∀ (ρ_q : Nat → Int) (γ_q : Nat → rHp) (lv_q : List (Nat × Value)) (st_q : List Value) (h_q : xH), rSm0 σ ρ ρ_q γ γ_q → rSt W T B A b own9.2.2.2.1 ρ_q γ_q q.2 lv_q st_q h_q → xSafe p l e R0 s m args below meth c nL D dA cl tA B (yEnd below args s D dA cl tA B (rQf W T B A b ρ0 γ0 own9) (rXf W T B A b ρ0 γ0 xn own9) kc9 kn9 R0.cells R0.slots) q.1 lv_q st_q h_q (q.2.2.2.2.2.2.2.1 + K9) (q.2.2.2.2.2.2.2.2 + N9))) : xSafe p l e R0 s m args below meth c nL D dA cl tA B (yEnd below args s D dA cl tA B (rQf W T B A b ρ0 γ0 own9) (rXf W T B A b ρ0 γ0 xn own9) kc9 kn9 R0.cells R0.slots) pc lv st h (σ.2.2.2.2.2.2.1 + K9) (σ.2.2.2.2.2.2.2 + N9) := by
  unfold rSp at h1
  obtain ⟨σ1, e1, e2, e3, e4⟩ := rCs_ok (pc := pc) (σ := σ) (qs := Bd.2.2.1) (l := [σ]) ⟨σ, List.mem_cons_self, hA, rfl, rfl⟩
  obtain ⟨x, f1, f2⟩ := aAll_in h1 _ (List.mem_map.mpr ⟨σ1, e1, rfl⟩)
  have := rSp1_ok (l1 := x) C hE hlocks hRm hl0 hJ hBg hCp hKt hI hX e2 hs (by rw [e3]; exact hm) f1 (fun q hq ρ_q γ_q lv_q st_q h_q g1 g2 => kk q (f2 q hq) ρ_q γ_q lv_q st_q h_q ⟨fun k hk => g1.1 k (by rw [e3]; exact hk), fun n hn => g1.2 n (by rw [e4]; exact hn)⟩ g2)
  rw [e4] at this
  exact this
end XOr
