/-! ===== operations with a log ===== -/
theorem zMv_num {W : List rGr} {A : rA} {ρ : Nat → Int} {b : aSc} {v : rV} {x : Value} (h : rMv W A ρ b v x) (h1 : ∀ a, x ≠ .ref a) (h2 : x ≠ .null) : rNum x = rE ρ v.2.2 ∧ v.1 < 2 := by
  obtain ⟨t, G, l⟩ := v
  unfold rMv at h
  dsimp only at h ⊢
  split at h
  · obtain ⟨z, rfl, hz⟩ := h
    exact ⟨hz, by decide⟩
  · obtain ⟨z, rfl, hz⟩ := h
    exact ⟨hz, by decide⟩
  · exact absurd h.1 (h1 _)
  · exact absurd h h2
  · exact absurd h.1 (h1 _)
  · obtain ⟨a, ha⟩ := h
    exact absurd ha (h1 a)
  · exact h.elim
theorem zop2_nr {i : Instr} {x y v : Value} (h : xop2 i x y = some v) : ((∀ a, x ≠ .ref a) ∧ x ≠ .null) ∧ (∀ a, y ≠ .ref a) ∧ y ≠ .null := by
  unfold xop2 at h
  split at h <;> first | (cases h; done) | exact ⟨⟨fun _ => nofun, nofun⟩, fun _ => nofun, nofun⟩
theorem zop1_nr {i : Instr} {x v : Value} (h : xop1 i x = some v) : (∀ a, x ≠ .ref a) ∧ x ≠ .null := by
  unfold xop1 at h
  split at h <;> first | (cases h; done) | exact ⟨fun _ => nofun, nofun⟩
theorem zRv_nr {ρ : Nat → Int} {t : Nat} {r : rRes} {v : Value} (h : rRv ρ t r v) : (∀ a, v ≠ .ref a) ∧ v ≠ .null := by
  rcases h with ⟨-, z, rfl, -⟩ | ⟨-, z, rfl, -⟩
  · exact ⟨fun _ => nofun, nofun⟩
  · exact ⟨fun _ => nofun, nofun⟩
theorem zStk_num {W : List rGr} {A : rA} {ρ : Nat → Int} {b : aSc} {S : List rV} {x : Value} {st : List Value} (h : rStk W A ρ b S (x :: st)) (h1 : ∀ a, x ≠ .ref a) (h2 : x ≠ .null) : rNum x = rE ρ (zTx S) := by
  cases S with
  | nil => exact h.elim
  | cons v S =>
    obtain ⟨e1, e2⟩ := zMv_num h.1 h1 h2
    unfold zTx
    dsimp only
    rw [if_pos (by omega)]
    exact e1
/-- one more row of the log, where the answer is a new number -/
noncomputable def zNew (n : Nat) (σ : rS) (L : List zLg) (i : Instr) (q : Nat × rS) : zNx := (0, q.1, q.2, rCo (Nat.ble q.2.1.length σ.1.length) L (L ++ [(.inr i, (σ.2.2.2.1.take n).reverse.map (fun v => v.2.2), 0, 0, zTx q.2.2.2.2.1)]), [])
noncomputable def zs2 (σ : rS) (L : List zLg) (i : Instr) (len pc : Nat) : Option (List zNx) := if (σ.2.2.2.1.take 2).all (fun v => rWx σ.1.length v.2.2) = true then (rs2 σ i len pc).map (fun l => l.map (zNew 2 σ L i)) else none
noncomputable def zs1 (σ : rS) (L : List zLg) (i : Instr) (len pc : Nat) : Option (List zNx) := if (σ.2.2.2.1.take 1).all (fun v => rWx σ.1.length v.2.2) = true then (rs1 σ i len pc).map (fun l => l.map (zNew 1 σ L i)) else none
/-! ===== branches, with what is not the same in the log ===== -/
noncomputable def zNe (R : aRg) (Γ : List rX) (cd : ClassFile.Cond) (x y : rX) (L : List zLg) : List zLg := match cd with
  | .ne => if rPv R Γ 1 (rSb x y) = true ∨ rPv R Γ 1 (rSb y x) = true then L else L ++ [(.inr .nop, [x, y, rC 0], 0, 0, rC 0)]
  | _ => L
noncomputable def zTwo (σ : rS) (L : List zLg) (S : List rV) (cd : ClassFile.Cond) (x y : rX) (tg pc_q : Nat) : List zNx :=
  (match rRf σ.1 σ.2.1 cd x y with | some q => [(0, tg, rWG σ S q, zNe σ.1 σ.2.1 cd x y L, [])] | none => []) ++ (match rRf σ.1 σ.2.1 (aNeg cd) x y with | some q => [(0, pc_q, rWG σ S q, zNe σ.1 σ.2.1 (aNeg cd) x y L, [])] | none => [])
noncomputable def zsB (σ : rS) (L : List zLg) (nx : Option (Instr × Nat)) (i : Instr) (len pc : Nat) : Option (List zNx) := match i with
  | .ifCond cd off => (match σ.2.2.2.1 with
    | a :: S => (match aTg pc off with | some tg => if a.1 = 0 ∧ len = 3 then some (zTwo σ L S cd a.2.2 (rC 0) tg (pc + 3)) else none | none => none)
    | [] => none)
  | .if_icmp cd off => (match σ.2.2.2.1 with
    | d :: a :: S => (match aTg pc off with | some tg => if a.1 = 0 ∧ d.1 = 0 ∧ len = 3 then some (zTwo σ L S cd a.2.2 d.2.2 tg (pc + 3)) else none | none => none)
    | _ => none)
  | .lcmp => (match σ.2.2.2.1 with
    | d :: a :: S => (match nx with
      | some (.ifCond cd off, len2) => (match aTg (pc + 1) off with | some tg => if a.1 = 1 ∧ d.1 = 1 ∧ len = 1 ∧ len2 = 3 then some (zTwo σ L S cd a.2.2 d.2.2 tg (pc + 4)) else none | none => none)
      | _ => none)
    | _ => none)
  | _ => none
section ZOp
variable {p : Program} {l : Launch} {e : Env} {R0 : Room} {s : State} {m : MethodId} {args : Array Value} {below : List Frame} {meth : Method} {c : Code} {Q : State → Prop} {K9 N9 : Nat}
variable {cc : ByteArray} {nL : Nat} {Ts : List Cond} {own : String} {D : va_G} {dA : Nat → ClassId} {cl : List vw_C} {tA : List (Nat × FieldType)} {tyf : Nat → Nat → FieldType} {B : Nat}
variable {W : List rGr} {T : List rIT} {A : rA} {b : aSc} {i0 : List Nat} {ρ : Nat → Int} {γ : Nat → rHp} {σ : rS} {pc len : Nat} {lv : List (Nat × Value)} {st : List Value} {h : xH} {i : Instr} {l1 : List (Nat × rS)}
variable {S : Nat → zSpc} {Lg : List zLg} {ln : List zNx}
theorem zs1_ok (C : xCx p s m args c cc nL Ts own D dA cl tA tyf B) (hA : rSt W T B A b i0 ρ γ σ lv st h) (hdg : decode cc pc = .ok (i, len)) (hLg : zLgs S ρ γ Lg) (hLw : Lg.all (zLgb σ.1.length σ.2.2.2.2.1.length) = true) (hs0 : zs1 σ Lg i len pc = some ln) (kk : (∀ q ∈ ln, ∀ (ρ_q : Nat → Int) (γ_q : Nat → rHp) (lv_q : List (Nat × Value)) (st_q : List Value) (h_q : xH), rSm0 σ ρ ρ_q γ γ_q → rSt W T B A b i0 ρ_q γ_q q.2.2.1 lv_q st_q h_q → zLgs S ρ_q γ_q q.2.2.2.1 → xSafe p l e R0 s m args below meth c nL D dA cl tA B Q q.2.1 lv_q st_q h_q (q.2.2.1.2.2.2.2.2.2.1 + K9) (q.2.2.1.2.2.2.2.2.2.2 + N9))) : xSafe p l e R0 s m args below meth c nL D dA cl tA B Q pc lv st h (σ.2.2.2.2.2.2.1 + K9) (σ.2.2.2.2.2.2.2 + N9) := by
  unfold zs1 at hs0
  split at hs0
  · rename_i hw
    cases hs1 : rs1 σ i len pc with
    | none => rw [hs1] at hs0; cases hs0
    | some l9 =>
      rw [hs1] at hs0
      cases hs0
      have hs := hs1
      unfold rs1 at hs
      split at hs
      · rename_i a S0 hS
        split at hs
        · rename_i hl
          subst hl
          split at hs
          · rename_i q hq
            cases hp : rPu σ S0 q.1 q.2 with
            | none => rw [hp] at hs; cases hs
            | some σ_q =>
              rw [hp] at hs
              cases hs
              have h3 := hA.2.2.1
              rw [hS] at h3 hw
              obtain ⟨x, st_q, rfl, hx, h4⟩ := rStk_cons h3
              obtain ⟨y, hy, hv⟩ := rop1_ok hA.1.1 (show rop1 σ.1 i a = some (q.1, q.2) from hq) hx
              obtain ⟨ρ_q, g1, g2, g3⟩ := rPu_ok (σ := σ) (S := S0) (st := st_q) (h := h) ⟨hA.1, hA.2.1, h4, hA.2.2.2⟩ hp hv
              have hx2 := zop1_nr hy
              have hy2 := zRv_nr hv
              have e1 := (zMv_num hx hx2.1 hx2.2).1
              have e2 := zStk_num g2.2.2.1 hy2.1 hy2.2
              simp only [List.take_succ_cons, List.take_zero, List.all_cons, List.all_nil, Bool.and_true] at hw
              have := kk _ (List.mem_map.mpr ⟨_, List.mem_cons_self, rfl⟩) ρ_q γ lv (y :: st_q) h g1 g2 (by
                show zLgs S ρ_q γ (rCo _ _ _)
                rw [rct]
                split
                · exact zLgs_same hLw g1.1 g1.2 hLg
                · refine zLgs_app (zLgs_same hLw g1.1 g1.2 hLg) ?_
                  rw [hS]
                  show zOpP i (γ 0) (γ (0 + 1)) [rE ρ_q a.2.2] (rE ρ_q (zTx σ_q.2.2.2.1))
                  exact ⟨x, y, hy, by rw [e1, rE_same g1.1 hw], e2⟩)
              rw [show (zNew 1 σ Lg i (pc + 1, σ_q)).2.2.1.2.2.2.2.2.2 = σ.2.2.2.2.2.2 from g3] at this
              exact xs_op1 C hy hdg this
          · cases hs
        · cases hs
      · cases hs
  · cases hs0
theorem zs2_ok (C : xCx p s m args c cc nL Ts own D dA cl tA tyf B) (hA : rSt W T B A b i0 ρ γ σ lv st h) (hdg : decode cc pc = .ok (i, len)) (hLg : zLgs S ρ γ Lg) (hLw : Lg.all (zLgb σ.1.length σ.2.2.2.2.1.length) = true) (hs0 : zs2 σ Lg i len pc = some ln) (kk : (∀ q ∈ ln, ∀ (ρ_q : Nat → Int) (γ_q : Nat → rHp) (lv_q : List (Nat × Value)) (st_q : List Value) (h_q : xH), rSm0 σ ρ ρ_q γ γ_q → rSt W T B A b i0 ρ_q γ_q q.2.2.1 lv_q st_q h_q → zLgs S ρ_q γ_q q.2.2.2.1 → xSafe p l e R0 s m args below meth c nL D dA cl tA B Q q.2.1 lv_q st_q h_q (q.2.2.1.2.2.2.2.2.2.1 + K9) (q.2.2.1.2.2.2.2.2.2.2 + N9))) : xSafe p l e R0 s m args below meth c nL D dA cl tA B Q pc lv st h (σ.2.2.2.2.2.2.1 + K9) (σ.2.2.2.2.2.2.2 + N9) := by
  unfold zs2 at hs0
  split at hs0
  · rename_i hw
    cases hs1 : rs2 σ i len pc with
    | none => rw [hs1] at hs0; cases hs0
    | some l9 =>
      rw [hs1] at hs0
      cases hs0
      have hs := hs1
      unfold rs2 at hs
      split at hs
      · rename_i d a S0 hS
        split at hs
        · rename_i hl
          subst hl
          split at hs
          · rename_i q hq
            cases hp : rPu σ S0 q.1 q.2 with
            | none => rw [hp] at hs; cases hs
            | some σ_q =>
              rw [hp] at hs
              cases hs
              have h3 := hA.2.2.1
              rw [hS] at h3 hw
              obtain ⟨y, st_q, rfl, hy, h4⟩ := rStk_cons h3
              obtain ⟨x, st_q, rfl, hx, h5⟩ := rStk_cons h4
              obtain ⟨v, hv1, hv⟩ := rop2_ok hA.1.1 hA.1.2.1 (show rop2 σ.1 σ.2.1 i a d = some (q.1, q.2) from hq) hx hy
              obtain ⟨ρ_q, g1, g2, g3⟩ := rPu_ok (σ := σ) (S := S0) (st := st_q) (h := h) ⟨hA.1, hA.2.1, h5, hA.2.2.2⟩ hp hv
              obtain ⟨hx2, hy2⟩ := zop2_nr hv1
              have hv2 := zRv_nr hv
              have e1 := (zMv_num hx hx2.1 hx2.2).1
              have e2 := (zMv_num hy hy2.1 hy2.2).1
              have e3 := zStk_num g2.2.2.1 hv2.1 hv2.2
              simp only [List.take_succ_cons, List.take_zero, List.all_cons, List.all_nil, Bool.and_true, Bool.and_eq_true] at hw
              have := kk _ (List.mem_map.mpr ⟨_, List.mem_cons_self, rfl⟩) ρ_q γ lv (v :: st_q) h g1 g2 (by
                show zLgs S ρ_q γ (rCo _ _ _)
                rw [rct]
                split
                · exact zLgs_same hLw g1.1 g1.2 hLg
                · refine zLgs_app (zLgs_same hLw g1.1 g1.2 hLg) ?_
                  rw [hS]
                  show zOpP i (γ 0) (γ (0 + 1)) [rE ρ_q a.2.2, rE ρ_q d.2.2] (rE ρ_q (zTx σ_q.2.2.2.1))
                  exact ⟨x, y, v, hv1, by rw [e1, rE_same g1.1 hw.2], by rw [e2, rE_same g1.1 hw.1], e3⟩)
              rw [show (zNew 2 σ Lg i (pc + 1, σ_q)).2.2.1.2.2.2.2.2.2 = σ.2.2.2.2.2.2 from g3] at this
              exact xs_op2 C hv1 hdg this
          · cases hs
        · cases hs
      · cases hs
  · cases hs0
theorem zNe_ok {R : aRg} {Γ : List rX} {cd : ClassFile.Cond} {x y : rX} (hLg : zLgs S ρ γ Lg) (h1 : aRelI cd (rE ρ x) (rE ρ y) = true) : zLgs S ρ γ (zNe R Γ cd x y Lg) := by
  unfold zNe
  split
  · split
    · exact hLg
    · refine zLgs_app hLg ?_
      show rE ρ x ≠ rE ρ y
      simpa [aRelI] using h1
  · exact hLg
theorem zTwo_ok {S0 : List rV} {st1 : List Value} {cd : ClassFile.Cond} {x y : rX} {tg pc_q : Nat} (hA : rSt W T B A b i0 ρ γ (rWS σ S0) lv st1 h) (hLg : zLgs S ρ γ Lg) (hl : ln = zTwo σ Lg S0 cd x y tg pc_q) {r : Bool} (hr : r = aRelI cd (rE ρ x) (rE ρ y)) (kk : (∀ q ∈ ln, q.1 = 0 → ∀ (ρ_q : Nat → Int) (γ_q : Nat → rHp) (lv_q : List (Nat × Value)) (st_q : List Value) (h_q : xH), rSm0 σ ρ ρ_q γ γ_q → rSt W T B A b i0 ρ_q γ_q q.2.2.1 lv_q st_q h_q → zLgs S ρ_q γ_q q.2.2.2.1 → xSafe p l e R0 s m args below meth c nL D dA cl tA B Q q.2.1 lv_q st_q h_q (q.2.2.1.2.2.2.2.2.2.1 + K9) (q.2.2.1.2.2.2.2.2.2.2 + N9))) :
    (r = true → xSafe p l e R0 s m args below meth c nL D dA cl tA B Q tg lv st1 h (σ.2.2.2.2.2.2.1 + K9) (σ.2.2.2.2.2.2.2 + N9)) ∧ (r = false → xSafe p l e R0 s m args below meth c nL D dA cl tA B Q pc_q lv st1 h (σ.2.2.2.2.2.2.1 + K9) (σ.2.2.2.2.2.2.2 + N9)) := by
  subst hl
  refine ⟨fun h1 => ?_, fun h1 => ?_⟩
  · have hc : aRelI cd (rE ρ x) (rE ρ y) = true := by rw [← hr]; exact h1
    obtain ⟨q, e1, e2, e3, e4⟩ := rRf_ok hA.1.1 hA.1.2.1 hc
    have e1 : rRf σ.1 σ.2.1 cd x y = some q := e1
    exact kk (0, tg, rWG σ S0 q, zNe σ.1 σ.2.1 cd x y Lg, []) (by unfold zTwo; rw [e1]; simp) rfl ρ γ lv st1 h rSm0_rf ⟨⟨e2, e3, hA.1.2.2⟩, hA.2⟩ (zNe_ok hLg hc)
  · have hc : aRelI (aNeg cd) (rE ρ x) (rE ρ y) = true := aNeg_ok (by rw [← hr]; exact h1)
    obtain ⟨q, e1, e2, e3, e4⟩ := rRf_ok hA.1.1 hA.1.2.1 hc
    have e1 : rRf σ.1 σ.2.1 (aNeg cd) x y = some q := e1
    exact kk (0, pc_q, rWG σ S0 q, zNe σ.1 σ.2.1 (aNeg cd) x y Lg, []) (by unfold zTwo; rw [e1]; simp) rfl ρ γ lv st1 h rSm0_rf ⟨⟨e2, e3, hA.1.2.2⟩, hA.2⟩ (zNe_ok hLg hc)
theorem zsB_ok (C : xCx p s m args c cc nL Ts own D dA cl tA tyf B) (hA : rSt W T B A b i0 ρ γ σ lv st h) (hdg : decode cc pc = .ok (i, len)) {nx : Option (Instr × Nat)} (hnx : ∀ q, nx = some q → decode cc (pc + 1) = .ok (q.1, q.2)) (hLg : zLgs S ρ γ Lg) (hs : zsB σ Lg nx i len pc = some ln) (kk : (∀ q ∈ ln, q.1 = 0 → ∀ (ρ_q : Nat → Int) (γ_q : Nat → rHp) (lv_q : List (Nat × Value)) (st_q : List Value) (h_q : xH), rSm0 σ ρ ρ_q γ γ_q → rSt W T B A b i0 ρ_q γ_q q.2.2.1 lv_q st_q h_q → zLgs S ρ_q γ_q q.2.2.2.1 → xSafe p l e R0 s m args below meth c nL D dA cl tA B Q q.2.1 lv_q st_q h_q (q.2.2.1.2.2.2.2.2.2.1 + K9) (q.2.2.1.2.2.2.2.2.2.2 + N9))) : xSafe p l e R0 s m args below meth c nL D dA cl tA B Q pc lv st h (σ.2.2.2.2.2.2.1 + K9) (σ.2.2.2.2.2.2.2 + N9) := by
  unfold zsB at hs
  split at hs
  · rename_i cd off
    split at hs
    · rename_i a S0 hS
      split at hs
      · rename_i tg htg
        split at hs
        · rename_i hc
          obtain ⟨c1, rfl⟩ := hc
          have h3 := hA.2.2.1
          rw [hS] at h3
          obtain ⟨x, st_q, rfl, hx, h4⟩ := rStk_cons h3
          obtain ⟨z, rfl, hz⟩ := rMv_int hx c1
          have hA2 : rSt W T B A b i0 ρ γ (rWS σ S0) lv st_q h := ⟨hA.1, hA.2.1, h4, hA.2.2.2⟩
          have e0 : (0 : Int32).toInt = 0 := by decide
          obtain ⟨k1, k2⟩ := zTwo_ok (r := xcmp cd z 0) hA2 hLg (Option.some.inj hs).symm (by rw [xcmp_rel, e0, hz, rE_c]) kk
          exact xs_if C (aTg_ok htg) hdg k1 k2
        · cases hs
      · cases hs
    · cases hs
  · rename_i cd off
    split at hs
    · rename_i d a S0 hS
      split at hs
      · rename_i tg htg
        split at hs
        · rename_i hc
          obtain ⟨c1, c2, rfl⟩ := hc
          have h3 := hA.2.2.1
          rw [hS] at h3
          obtain ⟨y, st_q, rfl, hy, h4⟩ := rStk_cons h3
          obtain ⟨x, st_q, rfl, hx, h5⟩ := rStk_cons h4
          obtain ⟨z, rfl, hz⟩ := rMv_int hx c1
          obtain ⟨w, rfl, hw⟩ := rMv_int hy c2
          have hA2 : rSt W T B A b i0 ρ γ (rWS σ S0) lv st_q h := ⟨hA.1, hA.2.1, h5, hA.2.2.2⟩
          obtain ⟨k1, k2⟩ := zTwo_ok (r := xcmp cd z w) hA2 hLg (Option.some.inj hs).symm (by rw [xcmp_rel, hz, hw]) kk
          exact xs_icmp C (aTg_ok htg) hdg k1 k2
        · cases hs
      · cases hs
    · cases hs
  · split at hs
    · rename_i d a S0 hS
      split at hs
      · rename_i cd off len2
        split at hs
        · rename_i tg htg
          split at hs
          · rename_i hc
            obtain ⟨hc1, hc2, hc3, hc4⟩ := hc
            subst hc3
            subst hc4
            have hd2 : decode cc (pc + 1) = .ok (.ifCond cd off, 3) := hnx _ rfl
            have h3 := hA.2.2.1
            rw [hS] at h3
            obtain ⟨y, st_q, rfl, hy, h4⟩ := rStk_cons h3
            obtain ⟨x, st_q, rfl, hx, h5⟩ := rStk_cons h4
            obtain ⟨z, rfl, hz⟩ := rMv_lng hx hc1
            obtain ⟨w, rfl, hw⟩ := rMv_lng hy hc2
            have hA2 : rSt W T B A b i0 ρ γ (rWS σ S0) lv st_q h := ⟨hA.1, hA.2.1, h5, hA.2.2.2⟩
            obtain ⟨k1, k2⟩ := zTwo_ok (r := xcmp cd (lg_cmp z w) 0) hA2 hLg (Option.some.inj hs).symm (by rw [lcmp_rel, hz, hw]) kk
            exact xs_op2 C (v := .int (lg_cmp z w)) rfl hdg (xs_if C (aTg_ok htg) hd2 k1 k2)
          · cases hs
        · cases hs
      · cases hs
    · cases hs
  · cases hs
end ZOp
/-! ===== values laid from one array into another, as they are ===== -/
theorem zPairs (cI : ClassId) (N at_ : Nat) : ∀ (l : List Value) (k : Nat) (g : Nat → Value), ∃ g_q : Nat → Value, (arrV cI N g).storePairs at_ (l.zipIdx k) = arrV cI N g_q ∧ ∀ j, g_q j = if at_ + k ≤ j ∧ j < at_ + k + l.length then l.getD (j - (at_ + k)) .null else g j
  | [], k, g => ⟨g, rfl, fun j => by rw [if_neg (by simp)]⟩
  | v :: l, k, g => by
    obtain ⟨g_q, h1, h2⟩ := zPairs cI N at_ l (k + 1) (updV g (at_ + k) v)
    refine ⟨g_q, ?_, fun j => ?_⟩
    · show ((arrV cI N g).setSlot (at_ + k) v).storePairs at_ (l.zipIdx (k + 1)) = _
      rw [arrV_store]
      exact h1
    · rw [h2 j]
      by_cases e : j = at_ + k
      · subst e
        rw [if_neg (by omega), if_pos (by simp)]
        simp [updV]
      · by_cases hj : at_ + k ≤ j ∧ j < at_ + k + (v :: l).length
        · rw [if_pos hj, if_pos (by simp at hj; omega)]
          have : j - (at_ + k) = (j - (at_ + (k + 1))) + 1 := by omega
          rw [this]
          simp
        · rw [if_neg hj, if_neg (by simp at hj; omega)]
          simp [updV, e]
theorem zCopied (cI : ClassId) {N0 N1 sp dp n : Nat} {f g : Nat → Value} (hs : sp + n ≤ N0) : ∃ g_q : Nat → Value, (arrV cI N1 g).storeRun dp ((arrV cI N0 f).stretch sp n) = arrV cI N1 g_q ∧ ∀ j, g_q j = if dp ≤ j ∧ j < dp + n then f (sp + (j - dp)) else g j := by
  obtain ⟨g_q, h1, h2⟩ := zPairs cI N1 dp ((arrV cI N0 f).stretch sp n) 0 g
  refine ⟨g_q, h1, fun j => ?_⟩
  have hl : ((arrV cI N0 f).stretch sp n).length = n := by simp [Cell.stretch]
  rw [h2 j, hl]
  by_cases hj : dp ≤ j ∧ j < dp + n
  · rw [if_pos (by omega), if_pos hj]
    have hlt : j - (dp + 0) < n := by omega
    rw [List.getD_eq_getElem?_getD, List.getElem?_eq_getElem (by rw [hl]; exact hlt)]
    simp only [Cell.stretch, List.getElem_map, List.getElem_range, Option.getD_some]
    rw [Array.getD_eq_getD_getElem?, arrV_read _ _ (by omega)]
    rfl
  · rw [if_neg (by omega), if_neg hj]
section ZCp
variable {p : Program} {l : Launch} {e : Env} {R : Room} {s : State} {m : MethodId} {args : Array Value} {below : List Frame} {meth : Method} {c : Code} {Q : State → Prop}
variable {cc : ByteArray} {nL : Nat} {Ts : List Cond} {own : String} {D : va_G} {dA : Nat → ClassId} {cl : List vw_C} {tA : List (Nat × FieldType)} {tyf : Nat → Nat → FieldType} {B : Nat}
variable {pc : Nat} {lv : List (Nat × Value)} {st : List Value} {h : xH} {k n : Nat} {i : Instr}
theorem zs_copy (C : xCx p s m args c cc nL Ts own D dA cl tA tyf B) {idx : Nat} (hw : xCpy own Ts idx) {t src dst N0 N1 : Nat} {f g : Nat → Value} {ty : FieldType} (ht : (t, ty) ∈ tA) (hprim : refKind ty = false) (ha0 : h src = some (t, N0, f)) (ha1 : h dst = some (t, N1, g)) (hBa : B ≤ dst)
    {sp dp z : Int32} (h1 : ¬ sp < 0) (h2 : ¬ dp < 0) (h3 : ¬ z < 0) (h4 : sp.toNatClampNeg + z.toNatClampNeg ≤ N0) (h5 : dp.toNatClampNeg + z.toNatClampNeg ≤ N1) (hfit : ∀ j, j < N0 → fits ty (f j) = true ∧ ∀ a, f j ≠ .ref a)
    (hframes : 1 ≤ R.frames) (hlocals : (st.map fun v => v.category).sum + 18 ≤ R.locals) (hdg : decode cc pc = .ok (.invokestatic idx, 3))
    (kk : ∀ g_q : Nat → Value, (∀ j, g_q j = if dp.toNatClampNeg ≤ j ∧ j < dp.toNatClampNeg + z.toNatClampNeg then f (sp.toNatClampNeg + (j - dp.toNatClampNeg)) else g j) → xSafe p l e R s m args below meth c nL D dA cl tA B Q (pc + 3) lv st (xput h dst (t, N1, g_q)) k n) : xSafe p l e R s m args below meth c nL D dA cl tA B Q pc lv (.int z :: .int dp :: .ref dst :: .int sp :: .ref src :: st) h k n := by
  have nn : ∀ z : Int32, ¬ z < 0 → z.toInt = (z.toNatClampNeg : Int) := by
    intro z hz
    have hz0 : (0 : Int) ≤ z.toInt := by
      have := Int32.not_lt.mp hz
      simpa using Int32.le_iff_toInt_le.mp this
    show z.toInt = ((z.toInt.toNat : Nat) : Int)
    omega
  intro H ls locs hR hl hS T hT X
  obtain ⟨hx, hb, hml, hown, hts, hK, hTb, hB⟩ := C
  obtain ⟨w1, w2, w3, w4⟩ := hw
  have h1000 := hTb.2 _ _ ht
  obtain ⟨hty, hN0, hc0⟩ := xat_arr h1000 (hR src _ ha0)
  obtain ⟨-, hN1, hc1⟩ := xat_arr h1000 (hR dst _ ha1)
  obtain ⟨-, k0, hk0, cm0, hkk0⟩ := (hK.2 t _ ht).1 N0 f
  obtain ⟨-, k1, hk1, cm1, hkk1⟩ := (hK.2 t _ ht).1 N1 g
  obtain ⟨vm_q, X_q, step⟩ := X.arraycopy hx hown (hts _ w1) (hts _ w2) (hts _ w3) (hts _ w4) (src := src) (dst := dst) (cs := arrV (dA t) N0 f) (cd := arrV (dA t) N1 g) (srcPos := sp) (destPos := dp) (n := z) (by rw [hT]; exact hc0) (by rw [hT]; exact hc1)
    (fun _ h => by cases h) (fun _ h => by cases h) (fun h => by cases h) (fun h => by cases h) hk0 hk1 hkk0 hkk1 (by simp [hprim]) h1 h2 h3
    (by rw [nn sp h1, nn z h3, arrV_size]; omega)
    (by rw [nn dp h2, nn z h3, arrV_size]; omega)
    (fun vm₁ _ i hi => by
      have e : (arrV (dA t) N0 f).slots.getD (sp.toNatClampNeg + i) .null = f (sp.toNatClampNeg + i) := by
        rw [Array.getD_eq_getD_getElem?, arrV_read _ _ (by omega)]
        rfl
      rw [e]
      obtain ⟨g1, g2⟩ := hfit (sp.toNatClampNeg + i) (by omega)
      refine ⟨g1, ?_⟩
      cases hv : f (sp.toNatClampNeg + i) with
      | ref a => exact absurd hv (g2 a)
      | _ => exact trivial)
    (g := F0 m pc ls (.int z :: .int dp :: .ref dst :: .int sp :: .ref src :: st)) rfl (by rw [hml]; exact hl.1) (rest := st) rfl (by rw [hb]; exact hdg) hframes (by show 2 * 0 + _ + (7 + 11) ≤ _; omega)
  obtain ⟨g_q, e1, e2⟩ := zCopied (dA t) (N1 := N1) (dp := dp.toNatClampNeg) (g := g) (f := f) h4
  have e1_q : copied (arrV (dA t) N0 f) (arrV (dA t) N1 g) sp dp z = arrV (dA t) N1 g_q := e1
  rw [e1_q] at X_q step
  have hlt : dst < H.size := (Array.getElem?_eq_some_iff.mp hc1).1
  have hheap : ((T.setVm vm_q).setCell dst (arrV (dA t) N1 g_q)).heap = H.setIfInBounds dst (arrV (dA t) N1 g_q) := by rw [← hT]; rfl
  have oq : ∀ q : Nat, q ≠ dst → (H.setIfInBounds dst (arrV (dA t) N1 g_q))[q]? = H[q]? := fun q hq => by simp [Array.getElem?_setIfInBounds, Ne.symm hq]
  obtain ⟨t9, a1, b1⟩ := kk g_q e2 _ ls _ (hR.put (xat_mkarr h1000 hty hN1 (by simp [Array.getElem?_setIfInBounds, hlt])) oq) hl ⟨by simp; exact hS.1, fun q g1 g2 => by
      rw [oq q (fun e => g2 (by rw [e]; exact hBa))]
      exact hS.2.1 q g1 g2, fun q hq => by
      rcases List.mem_append.mp hq with h | h
      · exact hS.2.2 q h
      · obtain ⟨z, -, hz⟩ := List.mem_map.mp h
        rw [← hz]
        exact hBa⟩ _ hheap X_q
  exact ⟨t9, step t9 a1, b1⟩
end ZCp
noncomputable def zsU (W : List rGr) (own : rI) (cp : List Nat) (σ : rS) (L : List zLg) (i : Instr) (len pc : Nat) : Option (List zNx) := match σ.2.2.2.1 with
  | n :: dp :: dst :: sp :: src :: _ => (rsU W own cp σ i len pc).map (fun l => l.map (fun q => (0, q.1, q.2, L ++ [(.inr i, [rC (src.2.1 : Int), src.2.2, sp.2.2, rC (dst.2.1 : Int), dst.2.2, dp.2.2, n.2.2], σ.2.2.2.2.1.length, 0, rC 0)], [])))
  | _ => none
section ZOr
variable {p : Program} {l : Launch} {e : Env} {R0 : Room} {s : State} {m : MethodId} {args : Array Value} {below : List Frame} {meth : Method} {c : Code} {Q : State → Prop} {K9 N9 : Nat}
variable {cc : ByteArray} {nL : Nat} {Ts : List Cond} {own : String} {D : va_G} {dA : Nat → ClassId} {cl : List vw_C} {tA : List (Nat × FieldType)} {tyf : Nat → Nat → FieldType} {B : Nat}
variable {W : List rGr} {T : List rIT} {A : rA} {b : aSc} {i0 : List Nat} {ρ : Nat → Int} {γ : Nat → rHp} {σ : rS} {pc len : Nat} {lv : List (Nat × Value)} {st : List Value} {h : xH} {i : Instr} {l1 : List (Nat × rS)}
variable {kc9 kn9 : Nat} {own9 I : rI} {ρ0 : Nat → Int} {γ0 : Nat → rHp} {xn : List String} {nw : List Cond} {nc : List (String × String)} {ao : List String} {W0 : List Cond} {mth : List aMd} {mx : List Nat} {J : List rI} {hs9 : List (Nat × Nat × Nat × Nat × Nat)} {iv : List aIv}
variable {Bd : rBd}
variable {S : Nat → zSpc} {S9 : zSpc} {Lg : List zLg} {ln : List zNx}
theorem zsU_ok (C : xCx p s m args c cc nL Ts own D dA cl tA tyf B) (hRm : rRmo own9 R0 K9 N9 kc9 kn9) (hA : rSt W T B A b i0 ρ γ σ lv st h) (hdg : decode cc pc = .ok (i, len)) (h4 : tA.take 4 = [(1000, .int), (1001, .long), (1002, .byte), (1003, .boolean)]) {cp : List Nat} (hCp : ∀ x ∈ cp, xCpy own Ts x) (hI : rInj W A) (hLg : zLgs S ρ γ Lg) (hLw : Lg.all (zLgb σ.1.length σ.2.2.2.2.1.length) = true) (hs0 : zsU W own9 cp σ Lg i len pc = some ln) (kk : (∀ q ∈ ln, ∀ (ρ_q : Nat → Int) (γ_q : Nat → rHp) (lv_q : List (Nat × Value)) (st_q : List Value) (h_q : xH), rSm0 σ ρ ρ_q γ γ_q → rSt W T B A b i0 ρ_q γ_q q.2.2.1 lv_q st_q h_q → zLgs S ρ_q γ_q q.2.2.2.1 → xSafe p l e R0 s m args below meth c nL D dA cl tA B Q q.2.1 lv_q st_q h_q (q.2.2.1.2.2.2.2.2.2.1 + K9) (q.2.2.1.2.2.2.2.2.2.2 + N9))) : xSafe p l e R0 s m args below meth c nL D dA cl tA B Q pc lv st h (σ.2.2.2.2.2.2.1 + K9) (σ.2.2.2.2.2.2.2 + N9) := by
  unfold zsU at hs0
  split at hs0
  case h_2 => cases hs0
  rename_i n dp dst sp src S0 hS9
  cases hs : rsU W own9 cp σ i len pc with
  | none => rw [hs] at hs0; cases hs0
  | some l9 =>
  rw [hs] at hs0
  cases hs0
  unfold rsU at hs
  split at hs
  · rename_i idx
    split at hs
    · rename_i nq dpq dstq spq srcq Sq hS
      split at hs
      · rename_i g0 g1 hg0 hg1
        split at hs
        · rename_i hc
          obtain ⟨⟨rfl, h16⟩, c1, c2⟩ := hc
          cases hs
          cases hS9.symm.trans hS
          obtain ⟨idx_q, hx1, hx2⟩ := List.any_eq_true.mp c1
          have hx2 := Nat.eq_of_beq_eq_true hx2
          subst hx2
          simp only [rUc, Bool.and_eq_true, Bool.or_eq_true, decide_eq_true_eq] at c2
          obtain ⟨⟨⟨⟨⟨⟨⟨⟨⟨⟨⟨⟨⟨⟨⟨⟨⟨u1, u2⟩, u3⟩, u4⟩, u5⟩, u6⟩, u7⟩, u8⟩, u9⟩, v1⟩, v2⟩, v3⟩, v4⟩, v5⟩, v6⟩, v7⟩, v8⟩, v9⟩ := c2
          have u6 := Nat.eq_of_beq_eq_true u6
          have u7 := Nat.eq_of_beq_eq_true u7
          have v7 := Nat.le_of_ble_eq_true v7
          have v8 := Nat.le_of_ble_eq_true v8
          have v2 := rPv_ok hA.1.1 hA.1.2.1 v2
          have v3 := rPv_ok hA.1.1 hA.1.2.1 v3
          have v4 := rPv_ok hA.1.1 hA.1.2.1 v4
          have v5 := rPv_ok hA.1.1 hA.1.2.1 v5
          have v6 := rPv_ok hA.1.1 hA.1.2.1 v6
          rw [rE_pl, rE_mu, rE_ad] at v5 v6
          have h3 := hA.2.2.1
          rw [hS] at h3
          obtain ⟨x1, st1, rfl, hx1_q, h31⟩ := rStk_cons h3
          obtain ⟨x2, st2, rfl, hx2_q, h32⟩ := rStk_cons h31
          obtain ⟨x3, st3, rfl, hx3_q, h33⟩ := rStk_cons h32
          obtain ⟨x4, st4, rfl, hx4_q, h34⟩ := rStk_cons h33
          obtain ⟨x5, st_q, rfl, hx5_q, h35⟩ := rStk_cons h34
          obtain ⟨zn, rfl, hzn⟩ := rMv_int hx1_q (Nat.eq_of_beq_eq_true u1)
          obtain ⟨zd, rfl, hzd⟩ := rMv_int hx2_q (Nat.eq_of_beq_eq_true u2)
          obtain ⟨rfl, q1, e1, e2, e3⟩ := rMv_ref hx3_q (Nat.eq_of_beq_eq_true u3)
          cases hg1.symm.trans e1
          obtain ⟨zs, rfl, hzs⟩ := rMv_int hx4_q (Nat.eq_of_beq_eq_true u4)
          obtain ⟨rfl, q0, f1, f2, f3⟩ := rMv_ref hx5_q (Nat.eq_of_beq_eq_true u5)
          cases hg0.symm.trans f1
          obtain ⟨-, F, m2, m3⟩ := hA.2.2.2 src.2.1 g0 hg0 _ f2 f3
          obtain ⟨lB, G, l2, l3⟩ := hA.2.2.2 dst.2.1 g1 hg1 _ e2 e3
          have hneg : ∀ z : Int32, 0 ≤ z.toInt → ¬ z < 0 := fun z hz q => by
            have := Int32.lt_iff_toInt_lt.mp q
            simp at this
            omega
          have hclamp : ∀ z : Int32, 0 ≤ z.toInt → (z.toNatClampNeg : Int) = z.toInt := fun z hz => by
            unfold Int32.toNatClampNeg
            omega
          have w1 := hclamp zn (by omega)
          have w2 := hclamp zd (by omega)
          have w3 := hclamp zs (by omega)
          have g1000 : 1000 ≤ g0.1 := by
            rcases u8 with u8 | u8
            · rw [Nat.eq_of_beq_eq_true u8.1]; decide
            · rw [Nat.eq_of_beq_eq_true u8.1]; decide
          have ht0 : (rTy g0 0).1 = 0 ∨ (rTy g0 0).1 = 1 := by
            rcases u8 with u8 | u8
            · exact Or.inl (Nat.eq_of_beq_eq_true u8.2)
            · exact Or.inr (Nat.eq_of_beq_eq_true u8.2)
          have hty0 : ∀ j, rTy g0 j = rTy g0 0 := fun j => by simp only [rTy]; rw [if_neg (by omega), if_neg (by omega)]
          have hty1 : ∀ j, rTy g1 j = rTy g1 0 := fun j => by simp only [rTy]; rw [if_neg (by omega), if_neg (by omega)]
          have htA : (g0.1, (if (rTy g0 0).1 = 0 then FieldType.int else FieldType.long)) ∈ tA := by
            have hm : ∀ q, q ∈ tA.take 4 → q ∈ tA := fun q hq => List.mem_of_mem_take hq
            rw [h4] at hm
            rcases u8 with u8 | u8
            · rw [Nat.eq_of_beq_eq_true u8.1, if_pos (Nat.eq_of_beq_eq_true u8.2)]
              exact hm _ (by simp)
            · rw [Nat.eq_of_beq_eq_true u8.1, if_neg (by rw [Nat.eq_of_beq_eq_true u8.2]; decide)]
              exact hm _ (by simp)
          have hF : ∀ j : Nat, j < g0.2.1 → rNum (F j) = γ σ.2.2.2.2.1.length src.2.1 (rE ρ src.2.2) j ∧ (∀ (t_q : rT) (k_q j_q : Int), t_q.1 = (rTy g0 0).1 → rEn A t_q k_q j_q (γ σ.2.2.2.2.1.length src.2.1 (rE ρ src.2.2) j) (F j)) ∧ fits (if (rTy g0 0).1 = 0 then .int else .long) (F j) = true ∧ ∀ a, F j ≠ .ref a := fun j hj => by
            have := m3 j hj
            rw [hty0 j] at this
            exact rEn_num this ht0
          have hG : ∀ j : Nat, j < g1.2.1 → rNum (G j) = γ σ.2.2.2.2.1.length dst.2.1 (rE ρ dst.2.2) j := fun j hj => by
            have := l3 j hj
            rw [hty1 j] at this
            exact (rEn_num this (by rw [u7]; exact ht0)).1
          rw [u6] at l2
          refine zs_copy C (hCp _ hx1) htA (by split <;> rfl) m2 l2 lB (hneg zs (by omega)) (hneg zd (by omega)) (hneg zn (by omega)) (by omega) (by omega) (fun j hj => (hF j hj).2.2) (Nat.le_trans v7 hRm.1) ?_ hdg (fun G_q hE9 => ?_)
          · rw [rSum_ok h35]
            exact Nat.le_trans v8 hRm.2.2.2.1
          · have hG_q : ∀ j, G_q j = G j ∨ ∃ j_q, j_q < g0.2.1 ∧ G_q j = F j_q := fun j => by
              have h9 := hE9 j
              split at h9
              · exact Or.inr ⟨_, by omega, h9⟩
              · exact Or.inl h9
            let γn : rHp := fun G9 k9 j9 => if G9 = dst.2.1 ∧ k9 = rE ρ dst.2.2 ∧ 0 ≤ j9 ∧ j9.toNat < g1.2.1 then rNum (G_q j9.toNat) else γ σ.2.2.2.2.1.length G9 k9 j9
            have hs : ∀ q, q ≤ σ.2.2.2.2.1.length → aUp γ (σ.2.2.2.2.1.length + 1) γn q = γ q := fun q hq => aUp_ne _ _ (by omega)
            have hrg := hA.1.2.2.2.2.1 σ.2.2.2.2.1.length (Nat.le_refl _)
            refine kk _ (List.mem_map.mpr ⟨_, List.mem_cons_self, rfl⟩) ρ (aUp γ (σ.2.2.2.2.1.length + 1) γn) lv _ _ ⟨fun _ _ => rfl, hs⟩ ⟨⟨hA.1.1, hA.1.2.1, ⟨?_, rCh_up hs hA.1.2.2.1⟩, ?_, ?_, ?_⟩, hA.2.1, h35, ?_⟩ ?_
            · unfold rD1
              rw [if_neg (by decide : ¬ (1 : Nat) = 0)]
              refine ⟨fun G9 k9 j9 hn9 => ?_, fun z hz => by cases hz⟩
              show aUp γ _ γn (σ.2.2.2.2.1.length + 1) _ _ _ = aUp γ _ γn σ.2.2.2.2.1.length _ _ _
              rw [aUp_self, hs _ (Nat.le_refl _)]
              show (if _ then _ else _) = _
              rw [if_neg]
              rintro ⟨rfl, -⟩
              exact hn9 (rMdP_one h16)
            · intro q hq
              have := Nat.le_of_ble_eq_true (List.all_eq_true.mp v9 q hq)
              rw [hs _ this]
              exact hA.1.2.2.2.1 q hq
            · intro q hq
              by_cases e : q = σ.2.2.2.2.1.length + 1
              · rw [e, aUp_self]
                intro G9 g9 hG9 k9 j9
                show _ ≤ (if _ then _ else _) ∧ (if _ then _ else _) ≤ _
                split
                · rename_i e4
                  obtain ⟨rfl, rfl, e5, e6⟩ := e4
                  cases hg1.symm.trans hG9
                  rw [hty1]
                  rcases hG_q j9.toNat with e7 | ⟨j_q, e7, e8⟩
                  · rw [e7, hG _ e6]
                    have := hrg dst.2.1 g1 hg1 (rE ρ dst.2.2) (j9.toNat : Int)
                    rw [Int.toNat_natCast, hty1] at this
                    exact this
                  · rw [e8, (hF _ e7).1]
                    have := hrg src.2.1 g0 hg0 (rE ρ src.2.2) (j_q : Int)
                    rw [Int.toNat_natCast, hty0] at this
                    omega
                · exact hrg G9 g9 hG9 k9 j9
              · rw [aUp_ne _ _ e]
                refine hA.1.2.2.2.2.1 q ?_
                have hq2 : q ≤ σ.2.2.2.2.1.length + 1 := hq
                show q ≤ σ.2.2.2.2.1.length
                omega
            · rw [hs _ (Nat.zero_le _)]
              exact hA.1.2.2.2.2.2
            · show rLay W B A (aUp γ _ γn (σ.2.2.2.2.1.length + 1)) _
              rw [aUp_self]
              intro G9 g9 hG9 k9 hk1 hk2
              obtain ⟨n1, V_q, n2, n3⟩ := hA.2.2.2 G9 g9 hG9 k9 hk1 hk2
              refine ⟨n1, ?_⟩
              by_cases e : A G9 k9 = A dst.2.1 (rE ρ dst.2.2)
              · obtain ⟨rfl, rfl⟩ := hI G9 dst.2.1 g9 g1 k9 (rE ρ dst.2.2) hG9 hg1 hk1 hk2 e2 e3 e
                cases hg1.symm.trans hG9
                refine ⟨G_q, by rw [u6]; simp [xput], fun j_q hj_q => ?_⟩
                show rEn A _ _ _ (if _ then _ else _) _
                rw [if_pos ⟨rfl, rfl, by omega, by rw [Int.toNat_natCast]; exact hj_q⟩, Int.toNat_natCast]
                rcases hG_q j_q with e7 | ⟨j2, e7, e8⟩
                · rw [e7, hG _ hj_q]
                  have := l3 j_q hj_q
                  exact this
                · rw [e8, (hF _ e7).1]
                  exact (hF _ e7).2.1 _ _ _ (by rw [hty1]; exact u7)
              · refine ⟨V_q, by simp only [xput]; rw [if_neg e]; exact n2, fun j_q hj_q => ?_⟩
                show rEn A _ _ _ (if _ then _ else _) _
                rw [if_neg]
                · exact n3 j_q hj_q
                · rintro ⟨rfl, rfl, -⟩
                  exact e rfl
            · refine zLgs_app (zLgs_same hLw (fun _ _ => rfl) hs hLg) ?_
              show aUp γ _ γn (σ.2.2.2.2.1.length + 1) = zCpy (aUp γ _ γn σ.2.2.2.2.1.length) (rE ρ (rC (src.2.1 : Int))).toNat (rE ρ src.2.2) (rE ρ sp.2.2) (rE ρ (rC (dst.2.1 : Int))).toNat (rE ρ dst.2.2) (rE ρ dp.2.2) (rE ρ n.2.2)
              rw [aUp_self, hs _ (Nat.le_refl _), rE_c, rE_c, Int.toNat_natCast, Int.toNat_natCast]
              funext G9 k9 j9
              show (if _ then _ else _) = (if _ then _ else _)
              by_cases e4 : G9 = dst.2.1 ∧ k9 = rE ρ dst.2.2
              · obtain ⟨rfl, rfl⟩ := e4
                by_cases e5 : 0 ≤ j9 ∧ j9.toNat < g1.2.1
                · rw [if_pos ⟨rfl, rfl, e5.1, e5.2⟩]
                  have h9 := hE9 j9.toNat
                  by_cases e6 : rE ρ dp.2.2 ≤ j9 ∧ j9 < rE ρ dp.2.2 + rE ρ n.2.2
                  · rw [if_pos ⟨rfl, rfl, e6.1, e6.2⟩]
                    rw [if_pos (by omega)] at h9
                    rw [h9, (hF _ (by omega)).1]
                    congr 1
                    omega
                  · rw [if_neg (fun q => e6 q.2.2)]
                    rw [if_neg (by omega)] at h9
                    rw [h9, hG _ e5.2]
                    congr 1
                    omega
                · rw [if_neg (fun q => e5 q.2.2), if_neg (fun q => e5 (by omega))]
              · rw [if_neg (fun q => e4 ⟨q.1, q.2.1⟩), if_neg (fun q => e4 ⟨q.1, q.2.1⟩)]
        · cases hs
      · cases hs
    · cases hs
  · cases hs
noncomputable def zOneA (W : List rGr) (Bd : aBd) (σ : rS) (pc : Nat) (i : Instr) (len : Nat) : Option (List (Nat × rS)) :=
  aOr (rsL σ i len pc) (aOr (rs0 σ i len pc) (aOr (rsG W Bd.2.2.1 σ i len pc) (aOr (rsC σ (rF1 Bd.2.1 (pc + 1)) i len pc) (aOr (rsB σ i len pc) (rsD σ i len pc)))))
noncomputable def zOneB (sc : Bool) (W : List rGr) (Bd : aBd) (σ : rS) (pc : Nat) (i : Instr) (len : Nat) : Option (List (Nat × rS)) :=
  aOr (rsW Bd.1 σ i len pc) (aOr (rsP W Bd.2.2.1 σ i len pc) (aOr (rsA sc W σ i len pc) (aOr (rsT W σ i len pc) (aOr (rsI Bd.1 σ i len pc) (aOr (rsS σ i len pc) (aOr (rsK Bd.2.2.1 σ i len pc) (aOr (rsH sc W σ i len pc) (rsX σ i pc))))))))
theorem zOneA_ok (C : xCx p s m args c cc nL Ts own D dA cl tA tyf B) (hBg : aBg own Ts cl tA tyf [] nw nc W0 mth mx xn b meth s c cc nL Bd.1) (hKt : ∀ g ∈ W, 1000 ≤ g.1 → ∃ ty, (g.1, ty) ∈ tA) (hI : rInj W A) {xs : Nat → Int32} {sc : Bool} (hX : sc = true → (va_X b.1 b.2.1 xs s s.heap ∧ b.1 < s.heap.size ∧ ¬ B ≤ b.1) ∧ ∀ j : Nat, j < b.2.1 → γ0 0 (W.length - 1) 0 (j : Int) = (xs j).toInt) (hA1 : rSt W T B A b own9.2.2.2.1 ρ γ σ lv st h) (hs1 : γ 0 = γ0 0) (hdg : decode cc pc = .ok (i, len)) (h1 : zOneA W Bd.1 σ pc i len = some l1) (kk : (∀ q ∈ l1, ∀ (ρ_q : Nat → Int) (γ_q : Nat → rHp) (lv_q : List (Nat × Value)) (st_q : List Value) (h_q : xH), rSm0 σ ρ ρ_q γ γ_q → rSt W T B A b own9.2.2.2.1 ρ_q γ_q q.2 lv_q st_q h_q → xSafe p l e R0 s m args below meth c nL D dA cl tA B Q q.1 lv_q st_q h_q (q.2.2.2.2.2.2.2.1 + K9) (q.2.2.2.2.2.2.2.2 + N9))) : xSafe p l e R0 s m args below meth c nL D dA cl tA B Q pc lv st h (σ.2.2.2.2.2.2.1 + K9) (σ.2.2.2.2.2.2.2 + N9) := by
  obtain ⟨b1, b2, b3, b4, b5, b6, b7, b8⟩ := hBg
  unfold zOneA at h1
  rcases aOr_at h1 with h1 | h1
  · exact rsL_ok C hA1 hdg h1 kk
  rcases aOr_at h1 with h1 | h1
  · exact rs0_ok C hA1 hdg h1 kk
  rcases aOr_at h1 with h1 | h1
  · exact rsG_ok C hA1 hdg b3 h1 kk
  rcases aOr_at h1 with h1 | h1
  · exact rsC_ok C hA1 hdg (fun q hq => by
      have h8 := b2 _ (rF1_mem hq)
      dsimp only at h8
      exact h8) h1 kk
  rcases aOr_at h1 with h1 | h1
  · exact rsB_ok C hA1 hdg h1 kk
  exact rsD_ok C hA1 hdg h1 kk
theorem zOneB_ok (C : xCx p s m args c cc nL Ts own D dA cl tA tyf B) (hBg : aBg own Ts cl tA tyf [] nw nc W0 mth mx xn b meth s c cc nL Bd.1) (hKt : ∀ g ∈ W, 1000 ≤ g.1 → ∃ ty, (g.1, ty) ∈ tA) (hI : rInj W A) {xs : Nat → Int32} {sc : Bool} (hX : sc = true → (va_X b.1 b.2.1 xs s s.heap ∧ b.1 < s.heap.size ∧ ¬ B ≤ b.1) ∧ ∀ j : Nat, j < b.2.1 → γ0 0 (W.length - 1) 0 (j : Int) = (xs j).toInt) (hA1 : rSt W T B A b own9.2.2.2.1 ρ γ σ lv st h) (hs1 : γ 0 = γ0 0) (hdg : decode cc pc = .ok (i, len)) (h1 : zOneB sc W Bd.1 σ pc i len = some l1) (kk : (∀ q ∈ l1, ∀ (ρ_q : Nat → Int) (γ_q : Nat → rHp) (lv_q : List (Nat × Value)) (st_q : List Value) (h_q : xH), rSm0 σ ρ ρ_q γ γ_q → rSt W T B A b own9.2.2.2.1 ρ_q γ_q q.2 lv_q st_q h_q → xSafe p l e R0 s m args below meth c nL D dA cl tA B Q q.1 lv_q st_q h_q (q.2.2.2.2.2.2.2.1 + K9) (q.2.2.2.2.2.2.2.2 + N9))) : xSafe p l e R0 s m args below meth c nL D dA cl tA B Q pc lv st h (σ.2.2.2.2.2.2.1 + K9) (σ.2.2.2.2.2.2.2 + N9) := by
  obtain ⟨b1, b2, b3, b4, b5, b6, b7, b8⟩ := hBg
  unfold zOneB at h1
  rcases aOr_at h1 with h1 | h1
  · rw [b1] at h1; exact rsW_ok C hA1 hdg h1 kk
  rcases aOr_at h1 with h1 | h1
  · exact rsP_ok C hA1 hdg b3 hI h1 kk
  rcases aOr_at h1 with h1 | h1
  · exact rsA_ok C hA1 hdg b3 hKt (fun q => ⟨(hX q).1, by rw [hs1]; exact (hX q).2⟩) h1 kk
  rcases aOr_at h1 with h1 | h1
  · exact rsT_ok C hA1 hdg b3 hKt hI h1 kk
  rcases aOr_at h1 with h1 | h1
  · rw [b1] at h1; exact rsI_ok C hA1 hdg h1 kk
  rcases aOr_at h1 with h1 | h1
  · exact rsS_ok C hA1 hdg h1 kk
  rcases aOr_at h1 with h1 | h1
  · exact rsK_ok C hA1 hdg b3 h1 kk
  rcases aOr_at h1 with h1 | h1
  · exact rsH_ok C hA1 hdg b3 (fun q => (hX q).1) h1 kk
  exact rsX_ok C hA1 hdg h1 kk
/-- one step, with the log -/
noncomputable def zPl (L : List zLg) (l : List (Nat × rS)) : List zNx := l.map (fun q => (0, q.1, q.2, L, []))
noncomputable def zOne (sc : Bool) (mx : List Nat) (W : List rGr) (T : List rIT) (own : rI) (J : List rI) (Bd : aBd) (cp : List Nat) (σ : rS) (L : List zLg) (pc : Nat) (i : Instr) (len : Nat) : Option (List zNx) :=
  aOr (zsB σ L (rF1 Bd.2.1 (pc + 1)) i len pc) (aOr ((zOneA W Bd σ pc i len).map (zPl L)) (aOr (zs2 σ L i len pc) (aOr ((zOneB sc W Bd σ pc i len).map (zPl L)) (aOr (zs1 σ L i len pc) (aOr (zsU W own cp σ L i len pc)
  (aOr (zsV mx W T own Bd.2.2.2.2.2.1 J Bd.2.2.2.1 σ L i len pc) (if σ.2.2.2.2.2.2.1 ≤ own.2.1.2.2.2.2.1 ∧ σ.2.2.2.2.2.2.2 ≤ own.2.1.2.2.2.2.2 then (rsR W T own Bd.2.2.2.2.2.2 σ i len).map (fun _ => [(1, 0, rNoL σ σ.2.2.2.1, L, [])]) else none)))))))
noncomputable def zSp1 (sc : Bool) (mx : List Nat) (W : List rGr) (T : List rIT) (own : rI) (J : List rI) (Bd : rBd) (pc : Nat) (L : List zLg) (σ : rS) : Option (List zNx) := match rHt W T own.2.2.2.1 pc Bd.2.1 σ with
  | none => some []
  | some σ1 => (match rF1 Bd.1.2.2.2.2.1 pc with
    | some q => (rThw W T own Bd.1 σ1 pc q).map (fun _ => [(1, q.1 + 1, rNoL σ1 [], L, [])])
    | none => (match rF1 Bd.1.2.1 pc with
      | some il => zOne sc mx W T own J Bd.1 Bd.2.2.2 σ1 L pc il.1 il.2
      | none => none))
noncomputable def zSp (sc : Bool) (mx : List Nat) (W : List rGr) (T : List rIT) (own : rI) (J : List rI) (Bd : rBd) (σ : rS) (L : List zLg) (pc : Nat) : Option (List zNx) := aAll ((rCs pc Bd.2.2.1 [σ]).map (zSp1 sc mx W T own J Bd pc L))
theorem zOne_ok (C : xCx p s m args c cc nL Ts own D dA cl tA tyf B) (hE : xEnv D dA cl tA B nw nc ao s) (hlocks : meth.locks = false) (hRm : rRmo own9 R0 K9 N9 kc9 kn9) (hl0 : l.stackTraces = false) (hJ : ∀ (n : Nat) (I : rI), J[n]? = some I → ∀ d : aMd, mth[I.1]? = some d → zMt D dA cl tA B nw nc ao W0 l W T A b xn d.1 (aCw d) (S n) I) (hBg : aBg own Ts cl tA tyf [] nw nc W0 mth mx xn b meth s c cc nL Bd.1) (hCp : ∀ x ∈ Bd.2.2.2, xCpy own Ts x) (hKt : ∀ g ∈ W, 1000 ≤ g.1 → ∃ ty, (g.1, ty) ∈ tA) (hI : rInj W A) {xs : Nat → Int32} {sc : Bool} (hX : sc = true → (va_X b.1 b.2.1 xs s s.heap ∧ b.1 < s.heap.size ∧ ¬ B ≤ b.1) ∧ ∀ j : Nat, j < b.2.1 → γ0 0 (W.length - 1) 0 (j : Int) = (xs j).toInt)
    (hA : rSt W T B A b own9.2.2.2.1 ρ γ σ lv st h) (hs : (∀ k, k < own9.2.2.1.1.length → ρ k = ρ0 k) ∧ γ 0 = γ0 0) (hm : own9.2.2.1.1.length ≤ σ.1.length) (hLg : zLgs S ρ γ Lg) (hLw : Lg.all (zLgb σ.1.length σ.2.2.2.2.1.length) = true) (hdg : decode cc pc = .ok (i, len)) (h1 : zOne sc mx W T own9 J Bd.1 Bd.2.2.2 σ Lg pc i len = some ln) (k0 : ∀ q ∈ ln, q.1 = 0 → ∀ (ρ_q : Nat → Int) (γ_q : Nat → rHp) (lv_q : List (Nat × Value)) (st_q : List Value) (h_q : xH), rSm0 σ ρ ρ_q γ γ_q → rSt W T B A b own9.2.2.2.1 ρ_q γ_q q.2.2.1 lv_q st_q h_q → zLgs S ρ_q γ_q q.2.2.2.1 → xSafe p l e R0 s m args below meth c nL D dA cl tA B (yEnd below args s D dA cl tA B (zQs W T B A b ρ0 γ0 S9 own9) (zXs W T B A b ρ0 γ0 xn S9 own9) kc9 kn9 R0.cells R0.slots) q.2.1 lv_q st_q h_q (q.2.2.1.2.2.2.2.2.2.1 + K9) (q.2.2.1.2.2.2.2.2.2.2 + N9))
    (k1 : ∀ q ∈ ln, q.1 = 1 → ∀ (ρ_q : Nat → Int) (γ_q : Nat → rHp), rSm0 σ ρ ρ_q γ γ_q → zK W T own9.2.2.2.1 ρ_q γ_q q.2.2.1 → zLgs S ρ_q γ_q q.2.2.2.1 → S9 (zAg own9.2.2.1.1.length ρ0) (γ0 0) q.2.1 (rE ρ_q (zTx q.2.2.1.2.2.2.1)) (γ_q q.2.2.1.2.2.2.2.1.length)) : xSafe p l e R0 s m args below meth c nL D dA cl tA B (yEnd below args s D dA cl tA B (zQs W T B A b ρ0 γ0 S9 own9) (zXs W T B A b ρ0 γ0 xn S9 own9) kc9 kn9 R0.cells R0.slots) pc lv st h (σ.2.2.2.2.2.2.1 + K9) (σ.2.2.2.2.2.2.2 + N9) := by
  have hB2 := hBg
  obtain ⟨b1, b2, b3, b4, b5, b6, b7, b8⟩ := hB2
  unfold zOne at h1
  rcases aOr_at h1 with h1 | h1
  · exact zsB_ok C hA hdg (fun q hq => by
      have h8 := b2 _ (rF1_mem hq)
      dsimp only at h8
      exact h8) hLg h1 k0
  rcases aOr_at h1 with h1 | h1
  · cases e1 : zOneA W Bd.1 σ pc i len with
    | none => rw [e1] at h1; cases h1
    | some l9 =>
      rw [e1] at h1
      cases h1
      exact zOneA_ok C hBg hKt hI hX hA hs.2 hdg e1 (fun q hq ρ_q γ_q lv_q st_q h_q g1 g2 => k0 _ (List.mem_map.mpr ⟨q, hq, rfl⟩) rfl ρ_q γ_q lv_q st_q h_q g1 g2 (zLgs_same hLw g1.1 g1.2 hLg))
  rcases aOr_at h1 with h1 | h1
  · have h0 : ∀ q ∈ ln, q.1 = 0 := by
      unfold zs2 at h1
      split at h1
      · cases e1 : rs2 σ i len pc with
        | none => rw [e1] at h1; cases h1
        | some l9 =>
          rw [e1] at h1
          cases h1
          intro q hq
          obtain ⟨z, -, rfl⟩ := List.mem_map.mp hq
          rfl
      · cases h1
    exact zs2_ok C hA hdg hLg hLw h1 (fun q hq ρ_q γ_q lv_q st_q h_q g1 g2 g3 => k0 q hq (h0 q hq) ρ_q γ_q lv_q st_q h_q g1 g2 g3)
  rcases aOr_at h1 with h1 | h1
  · cases e1 : zOneB sc W Bd.1 σ pc i len with
    | none => rw [e1] at h1; cases h1
    | some l9 =>
      rw [e1] at h1
      cases h1
      exact zOneB_ok C hBg hKt hI hX hA hs.2 hdg e1 (fun q hq ρ_q γ_q lv_q st_q h_q g1 g2 => k0 _ (List.mem_map.mpr ⟨q, hq, rfl⟩) rfl ρ_q γ_q lv_q st_q h_q g1 g2 (zLgs_same hLw g1.1 g1.2 hLg))
  rcases aOr_at h1 with h1 | h1
  · have h0 : ∀ q ∈ ln, q.1 = 0 := by
      unfold zs1 at h1
      split at h1
      · cases e1 : rs1 σ i len pc with
        | none => rw [e1] at h1; cases h1
        | some l9 =>
          rw [e1] at h1
          cases h1
          intro q hq
          obtain ⟨z, -, rfl⟩ := List.mem_map.mp hq
          rfl
      · cases h1
    exact zs1_ok C hA hdg hLg hLw h1 (fun q hq ρ_q γ_q lv_q st_q h_q g1 g2 g3 => k0 q hq (h0 q hq) ρ_q γ_q lv_q st_q h_q g1 g2 g3)
  rcases aOr_at h1 with h1 | h1
  · have h0 : ∀ q ∈ ln, q.1 = 0 := by
      unfold zsU at h1
      split at h1
      · cases e1 : rsU W own9 Bd.2.2.2 σ i len pc with
        | none => rw [e1] at h1; cases h1
        | some l9 =>
          rw [e1] at h1
          cases h1
          intro q hq
          obtain ⟨z, -, rfl⟩ := List.mem_map.mp hq
          rfl
      · cases h1
    exact zsU_ok C hRm hA hdg b3.2.2.2.2.1.1 hCp hI hLg hLw h1 (fun q hq ρ_q γ_q lv_q st_q h_q g1 g2 g3 => k0 q hq (h0 q hq) ρ_q γ_q lv_q st_q h_q g1 g2 g3)
  rcases aOr_at h1 with h1 | h1
  · exact zsV_ok C hE hlocks hRm b7 hJ b5 hA hs hm hdg hLg hLw h1 k0 k1
  split at h1
  · rename_i h9
    cases e1 : rsR W T own9 Bd.1.2.2.2.2.2.2 σ i len with
    | none => rw [e1] at h1; cases h1
    | some l9 =>
      rw [e1] at h1
      cases h1
      exact zsR_ok C hlocks hRm rfl b8 hA hs hm h9.1 h9.2 hdg e1 (k1 _ List.mem_cons_self rfl ρ γ rSm0_rf hA.1 hLg)
  · cases h1
theorem zSp1_ok (C : xCx p s m args c cc nL Ts own D dA cl tA tyf B) (hE : xEnv D dA cl tA B nw nc ao s) (hlocks : meth.locks = false) (hRm : rRmo own9 R0 K9 N9 kc9 kn9) (hl0 : l.stackTraces = false) (hJ : ∀ (n : Nat) (I : rI), J[n]? = some I → ∀ d : aMd, mth[I.1]? = some d → zMt D dA cl tA B nw nc ao W0 l W T A b xn d.1 (aCw d) (S n) I) (hBg : aBg own Ts cl tA tyf [] nw nc W0 mth mx xn b meth s c cc nL Bd.1) (hCp : ∀ x ∈ Bd.2.2.2, xCpy own Ts x) (hKt : ∀ g ∈ W, 1000 ≤ g.1 → ∃ ty, (g.1, ty) ∈ tA) (hI : rInj W A) {xs : Nat → Int32} {sc : Bool} (hX : sc = true → (va_X b.1 b.2.1 xs s s.heap ∧ b.1 < s.heap.size ∧ ¬ B ≤ b.1) ∧ ∀ j : Nat, j < b.2.1 → γ0 0 (W.length - 1) 0 (j : Int) = (xs j).toInt)
    (hA : rSt W T B A b own9.2.2.2.1 ρ γ σ lv st h) (hs : (∀ k, k < own9.2.2.1.1.length → ρ k = ρ0 k) ∧ γ 0 = γ0 0) (hm : own9.2.2.1.1.length ≤ σ.1.length) (hLg : zLgs S ρ γ Lg) (hLw : Lg.all (zLgb σ.1.length σ.2.2.2.2.1.length) = true) (h1 : zSp1 sc mx W T own9 J Bd pc Lg σ = some ln) (k0 : ∀ q ∈ ln, q.1 = 0 → ∀ (ρ_q : Nat → Int) (γ_q : Nat → rHp) (lv_q : List (Nat × Value)) (st_q : List Value) (h_q : xH), rSm0 σ ρ ρ_q γ γ_q → rSt W T B A b own9.2.2.2.1 ρ_q γ_q q.2.2.1 lv_q st_q h_q → zLgs S ρ_q γ_q q.2.2.2.1 → xSafe p l e R0 s m args below meth c nL D dA cl tA B (yEnd below args s D dA cl tA B (zQs W T B A b ρ0 γ0 S9 own9) (zXs W T B A b ρ0 γ0 xn S9 own9) kc9 kn9 R0.cells R0.slots) q.2.1 lv_q st_q h_q (q.2.2.1.2.2.2.2.2.2.1 + K9) (q.2.2.1.2.2.2.2.2.2.2 + N9))
    (k1 : ∀ q ∈ ln, q.1 = 1 → ∀ (ρ_q : Nat → Int) (γ_q : Nat → rHp), rSm0 σ ρ ρ_q γ γ_q → zK W T own9.2.2.2.1 ρ_q γ_q q.2.2.1 → zLgs S ρ_q γ_q q.2.2.2.1 → S9 (zAg own9.2.2.1.1.length ρ0) (γ0 0) q.2.1 (rE ρ_q (zTx q.2.2.1.2.2.2.1)) (γ_q q.2.2.1.2.2.2.2.1.length)) : xSafe p l e R0 s m args below meth c nL D dA cl tA B (yEnd below args s D dA cl tA B (zQs W T B A b ρ0 γ0 S9 own9) (zXs W T B A b ρ0 γ0 xn S9 own9) kc9 kn9 R0.cells R0.slots) pc lv st h (σ.2.2.2.2.2.2.1 + K9) (σ.2.2.2.2.2.2.2 + N9) := by
  have hB2 := hBg
  obtain ⟨b1, b2, b3, b4, b5, b6, b7, b8⟩ := hB2
  unfold zSp1 at h1
  obtain ⟨σ1, t1, ρ1, t2, hA1, t3, t4, t5⟩ := rHt_ok (pc := pc) (qs := Bd.2.1) hA
  rw [t1] at h1
  dsimp only at h1
  rw [show σ.2.2.2.2.2.2.1 = σ1.2.2.2.2.2.2.1 by rw [t5], show σ.2.2.2.2.2.2.2 = σ1.2.2.2.2.2.2.2 by rw [t5]]
  have hs1 : (∀ k, k < own9.2.2.1.1.length → ρ1 k = ρ0 k) ∧ γ 0 = γ0 0 := ⟨fun k hk => (t2.1 k (by omega)).trans (hs.1 k hk), hs.2⟩
  have hm1 : own9.2.2.1.1.length ≤ σ1.1.length := by omega
  have hLg1 : zLgs S ρ1 γ Lg := zLgs_same hLw t2.1 t2.2 hLg
  have hLw1 : Lg.all (zLgb σ1.1.length σ1.2.2.2.2.1.length) = true := by
    rw [t4]
    exact zLgb_up t3 (Nat.le_refl _) hLw
  have up : ∀ {ρ_q : Nat → Int} {γ_q : Nat → rHp}, rSm0 σ1 ρ1 ρ_q γ γ_q → rSm0 σ ρ ρ_q γ γ_q := fun g1 => ⟨fun k hk => (g1.1 k (by omega)).trans (t2.1 k hk), fun n hn => g1.2 n (by rw [t4]; exact hn)⟩
  split at h1
  · rename_i q hq
    cases e9 : rThw W T own9 Bd.1 σ1 pc q with
    | none => rw [e9] at h1; cases h1
    | some l9 =>
      rw [e9] at h1
      cases h1
      have hS := k1 _ List.mem_cons_self rfl ρ1 γ ⟨t2.1, t2.2⟩ hA1.1 hLg1
      unfold rThw at e9
      split at e9
      · rename_i hc
        obtain ⟨d0, d3, d4, d7, e1, e2⟩ := hc
        obtain ⟨X, g1, g2, g3, g4, g5, g6⟩ := b6 _ (rF1_mem hq)
        have hnt : ∀ z ∈ c.exceptionTable.toList, False := fun z hz => by
          rw [b7.1, List.isEmpty_iff.mp e1] at hz
          simp [tableOf] at hz
        have f0 := b2 _ (rF1_mem d0)
        have f3 := b2 _ (rF1_mem d3)
        have f4 := b2 _ (rF1_mem d4)
        have f7 := b2 _ (rF1_mem d7)
        dsimp only at g1 g3 g5 g6 f0 f3 f4 f7
        exact zsY_ok (x := q.1) (ik := q.2.1) (ic := q.2.2) (X := X) C hE hlocks hRm hnt hl0 g1 g2 g3 g4 g5 g6 f0 f3 f4 f7 hA1 hs1 hm1 e2 hS
      · cases e9
  · split at h1
    · rename_i il hil
      have hdg := b2 _ (rF1_mem hil)
      dsimp only at hdg
      exact zOne_ok C hE hlocks hRm hl0 hJ hBg hCp hKt hI hX hA1 hs1 hm1 hLg1 hLw1 hdg h1 (fun q hq q0 ρ_q γ_q lv_q st_q h_q g1 g2 g3 => k0 q hq q0 ρ_q γ_q lv_q st_q h_q (up g1) g2 g3) (fun q hq q0 ρ_q γ_q g1 g2 g3 => k1 q hq q0 ρ_q γ_q (up g1) g2 g3)
    · cases h1
theorem zSp_ok (C : xCx p s m args c cc nL Ts own D dA cl tA tyf B) (hE : xEnv D dA cl tA B nw nc ao s) (hlocks : meth.locks = false) (hRm : rRmo own9 R0 K9 N9 kc9 kn9) (hl0 : l.stackTraces = false) (hJ : ∀ (n : Nat) (I : rI), J[n]? = some I → ∀ d : aMd, mth[I.1]? = some d → zMt D dA cl tA B nw nc ao W0 l W T A b xn d.1 (aCw d) (S n) I) (hBg : aBg own Ts cl tA tyf [] nw nc W0 mth mx xn b meth s c cc nL Bd.1) (hCp : ∀ x ∈ Bd.2.2.2, xCpy own Ts x) (hKt : ∀ g ∈ W, 1000 ≤ g.1 → ∃ ty, (g.1, ty) ∈ tA) (hI : rInj W A) {xs : Nat → Int32} {sc : Bool} (hX : sc = true → (va_X b.1 b.2.1 xs s s.heap ∧ b.1 < s.heap.size ∧ ¬ B ≤ b.1) ∧ ∀ j : Nat, j < b.2.1 → γ0 0 (W.length - 1) 0 (j : Int) = (xs j).toInt)
    (hA : rSt W T B A b own9.2.2.2.1 ρ γ σ lv st h) (hs : (∀ k, k < own9.2.2.1.1.length → ρ k = ρ0 k) ∧ γ 0 = γ0 0) (hm : own9.2.2.1.1.length ≤ σ.1.length) (hLg : zLgs S ρ γ Lg) (hLw : Lg.all (zLgb σ.1.length σ.2.2.2.2.1.length) = true) (h1 : zSp sc mx W T own9 J Bd σ Lg pc = some ln) (k0 : ∀ q ∈ ln, q.1 = 0 → ∀ (ρ_q : Nat → Int) (γ_q : Nat → rHp) (lv_q : List (Nat × Value)) (st_q : List Value) (h_q : xH), rSm0 σ ρ ρ_q γ γ_q → rSt W T B A b own9.2.2.2.1 ρ_q γ_q q.2.2.1 lv_q st_q h_q → zLgs S ρ_q γ_q q.2.2.2.1 → xSafe p l e R0 s m args below meth c nL D dA cl tA B (yEnd below args s D dA cl tA B (zQs W T B A b ρ0 γ0 S9 own9) (zXs W T B A b ρ0 γ0 xn S9 own9) kc9 kn9 R0.cells R0.slots) q.2.1 lv_q st_q h_q (q.2.2.1.2.2.2.2.2.2.1 + K9) (q.2.2.1.2.2.2.2.2.2.2 + N9))
    (k1 : ∀ q ∈ ln, q.1 = 1 → ∀ (ρ_q : Nat → Int) (γ_q : Nat → rHp), rSm0 σ ρ ρ_q γ γ_q → zK W T own9.2.2.2.1 ρ_q γ_q q.2.2.1 → zLgs S ρ_q γ_q q.2.2.2.1 → S9 (zAg own9.2.2.1.1.length ρ0) (γ0 0) q.2.1 (rE ρ_q (zTx q.2.2.1.2.2.2.1)) (γ_q q.2.2.1.2.2.2.2.1.length)) : xSafe p l e R0 s m args below meth c nL D dA cl tA B (yEnd below args s D dA cl tA B (zQs W T B A b ρ0 γ0 S9 own9) (zXs W T B A b ρ0 γ0 xn S9 own9) kc9 kn9 R0.cells R0.slots) pc lv st h (σ.2.2.2.2.2.2.1 + K9) (σ.2.2.2.2.2.2.2 + N9) := by
  unfold zSp at h1
  obtain ⟨σ1, e1, e2, e3, e4⟩ := rCs_ok (pc := pc) (σ := σ) (qs := Bd.2.2.1) (l := [σ]) ⟨σ, List.mem_cons_self, hA, rfl, rfl⟩
  obtain ⟨x, f1, f2⟩ := aAll_in h1 _ (List.mem_map.mpr ⟨σ1, e1, rfl⟩)
  have up : ∀ {ρ_q : Nat → Int} {γ_q : Nat → rHp}, rSm0 σ1 ρ ρ_q γ γ_q → rSm0 σ ρ ρ_q γ γ_q := fun g1 => ⟨fun k hk => g1.1 k (by rw [e3]; exact hk), fun n hn => g1.2 n (by rw [e4]; exact hn)⟩
  have := zSp1_ok (ln := x) C hE hlocks hRm hl0 hJ hBg hCp hKt hI hX e2 hs (by rw [e3]; exact hm) hLg (by rw [e3, e4]; exact hLw) f1 (fun q hq q0 ρ_q γ_q lv_q st_q h_q g1 g2 g3 => k0 q (f2 q hq) q0 ρ_q γ_q lv_q st_q h_q (up g1) g2 g3) (fun q hq q0 ρ_q γ_q g1 g2 g3 => k1 q (f2 q hq) q0 ρ_q γ_q (up g1) g2 g3)
  rw [e4] at this
  exact this
end ZOr
