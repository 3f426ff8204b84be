/-! ===== loops, and a whole body ===== -/
/-- does the state come to a place with a pattern, and falls the line -/
noncomputable def rMg (W : List rGr) (T : List rIT) (j0 : List Nat) (m : Nat) (r0 : Option rX) (σ : rS) (a : rS × rX) : Bool := match rMt0 W σ a.1 [] m 1 with
  | some z => rCk W T j0 j0 z.2 a.1 z.1 1 && rId m z.1 && rPv z.2.1 z.2.2.1 2 (rSx z.1 a.2) && (match r0 with | some r => rPv z.2.1 z.2.2.1 2 (rPl (rSb r (rSx z.1 a.2)) (-1)) | none => true)
  | none => false
noncomputable def rEx (sc : Bool) (mx : List Nat) (W : List rGr) (T : List rIT) (own : rI) (J : List rI) (Bd : rBd) (ann : List (Nat × rS × rX)) (r0 : Option rX) : Nat → Nat → rS → Bool
  | 0, _, _ => false
  | f + 1, pc, σ => (match rSp sc mx W T own J Bd σ pc with
    | some l => l.all (fun q => Nat.ble σ.1.length q.2.1.length && (ann.any (fun a => Nat.beq a.1 q.1 && rMg W T own.2.2.2.1 own.2.2.1.1.length r0 q.2 a.2) || rEx sc mx W T own J Bd ann r0 f q.1 q.2))
    | none => false)
section XXr
variable {p : Program} {l : Launch} {e : Env} {R0 : Room} {s : State} {m : MethodId} {args : Array Value} {below : List Frame} {meth : Method} {c : Code} {Q : State → Prop} {K9 N9 : Nat}
variable {cc : ByteArray} {nL : Nat} {Ts : List Cond} {own : String} {D : va_G} {dA : Nat → ClassId} {cl : List vw_C} {tA : List (Nat × FieldType)} {tyf : Nat → Nat → FieldType} {B : Nat}
variable {W : List rGr} {T : List rIT} {A : rA} {b : aSc} {i0 : List Nat} {ρ : Nat → Int} {γ : Nat → rHp} {σ : rS} {pc len : Nat} {lv : List (Nat × Value)} {st : List Value} {h : xH} {i : Instr} {l1 : List (Nat × rS)}
variable {kc9 kn9 : Nat} {own9 I : rI} {ρ0 : Nat → Int} {γ0 : Nat → rHp} {xn : List String} {nw : List Cond} {nc : List (String × String)} {ao : List String} {W0 : List Cond} {mth : List aMd} {mx : List Nat} {J : List rI} {hs9 : List (Nat × Nat × Nat × Nat × Nat)} {iv : List aIv}
variable {Bd : rBd} {ann : List (Nat × rS × rX)} {r0 : Option rX}
theorem rEx_ok (C : xCx p s m args c cc nL Ts own D dA cl tA tyf B) (hE : xEnv D dA cl tA B nw nc ao s) (hlocks : meth.locks = false) (hRm : rRmo own9 R0 K9 N9 kc9 kn9) (hl0 : l.stackTraces = false) (hJ : ∀ (n : Nat) (I : rI), J[n]? = some I → ∀ d : aMd, mth[I.1]? = some d → rMt D dA cl tA B nw nc ao W0 l W T A b xn d.1 (aCw d) I) (hBg : aBg own Ts cl tA tyf [] nw nc W0 mth mx xn b meth s c cc nL Bd.1) (hCp : ∀ x ∈ Bd.2.2.2, xCpy own Ts x) (hKt : ∀ g ∈ W, 1000 ≤ g.1 → ∃ ty, (g.1, ty) ∈ tA) (hI : rInj W A) {xs : Nat → Int32} {sc : Bool} (hX : sc = true → (va_X b.1 b.2.1 xs s s.heap ∧ b.1 < s.heap.size ∧ ¬ B ≤ b.1) ∧ ∀ j : Nat, j < b.2.1 → γ0 0 (W.length - 1) 0 (j : Int) = (xs j).toInt) {v0 : Int}
    (hann : ∀ (pc : Nat) (P : rS) (r : rX), (pc, P, r) ∈ ann → ∀ (ρ_q : Nat → Int) (γ_q : Nat → rHp) (lv_q : List (Nat × Value)) (st_q : List Value) (h_q : xH), rSt W T B A b own9.2.2.2.1 ρ_q γ_q P lv_q st_q h_q → ((∀ k, k < own9.2.2.1.1.length → ρ_q k = ρ0 k) ∧ γ_q 0 = γ0 0) → 0 ≤ rE ρ_q r → (r0 ≠ none → rE ρ_q r < v0) → xSafe p l e R0 s m args below meth c nL D dA cl tA B (yEnd below args s D dA cl tA B (rQf W T B A b ρ0 γ0 own9) (rXf W T B A b ρ0 γ0 xn own9) kc9 kn9 R0.cells R0.slots) pc lv_q st_q h_q (P.2.2.2.2.2.2.1 + K9) (P.2.2.2.2.2.2.2 + N9)) :
    ∀ (f pc : Nat) (σ : rS) (ρ : Nat → Int) (γ : Nat → rHp) (lv : List (Nat × Value)) (st : List Value) (h : xH), rEx sc mx W T own9 J Bd ann r0 f pc σ = true → rSt W T B A b own9.2.2.2.1 ρ γ σ lv st h → ((∀ k, k < own9.2.2.1.1.length → ρ k = ρ0 k) ∧ γ 0 = γ0 0) → own9.2.2.1.1.length ≤ σ.1.length →
      (∀ r, r0 = some r → rWx σ.1.length r = true ∧ rE ρ r = v0) → xSafe p l e R0 s m args below meth c nL D dA cl tA B (yEnd below args s D dA cl tA B (rQf W T B A b ρ0 γ0 own9) (rXf W T B A b ρ0 γ0 xn own9) kc9 kn9 R0.cells R0.slots) pc lv st h (σ.2.2.2.2.2.2.1 + K9) (σ.2.2.2.2.2.2.2 + N9) := by
  intro f
  induction f with
  | zero => intro pc σ ρ γ lv st h h1; cases h1
  | succ f ih =>
    intro pc σ ρ γ lv st h h1 hA hs hm hr
    unfold rEx at h1
    split at h1
    · rename_i l1 hl1
      refine rSp_ok C hE hlocks hRm hl0 hJ hBg hCp hKt hI hX hA hs hm hl1 ?_
      intro q hq ρ_q γ_q lv_q st_q h_q g1 g3
      have h2 := List.all_eq_true.mp h1 q hq
      simp only [Bool.and_eq_true, Bool.or_eq_true] at h2
      obtain ⟨k1, k3⟩ := h2
      have k1 := Nat.le_of_ble_eq_true k1
      have hs_q : (∀ k, k < own9.2.2.1.1.length → ρ_q k = ρ0 k) ∧ γ_q 0 = γ0 0 := ⟨fun k hk => (g1.1 k (by omega)).trans (hs.1 k hk), (g1.2 0 (Nat.zero_le _)).trans hs.2⟩
      have hr_q : ∀ r, r0 = some r → rWx q.2.1.length r = true ∧ rE ρ_q r = v0 := by
        intro r hr0
        obtain ⟨e1, e2⟩ := hr r hr0
        refine ⟨?_, by rw [rE_same g1.1 e1]; exact e2⟩
        rw [rWx_eq] at e1 ⊢
        refine List.all_eq_true.mpr (fun y hy => ?_)
        have := (Nat.blt_eq).mp (List.all_eq_true.mp e1 y hy)
        exact (Nat.blt_eq).mpr (by omega)
      rcases k3 with k3 | k3
      · obtain ⟨a, ha, k3⟩ := List.any_eq_true.mp k3
        simp only [Bool.and_eq_true] at k3
        obtain ⟨k0, k3⟩ := k3
        have k0 := Nat.eq_of_beq_eq_true k0
        unfold rMg at k3
        split at k3
        · rename_i z hz
          obtain ⟨s9, σ9⟩ := z
          simp only [Bool.and_eq_true] at k3
          obtain ⟨⟨⟨m1, m2⟩, m3⟩, m4⟩ := k3
          obtain ⟨ρ9, a1, a2, a3, a4, a5, a6, a7, a8, a9, -⟩ := rMt0_ok g3 hz
          obtain ⟨c1, c2, c3⟩ := rCk_ok a3 m1
          have n1 := rPv_ok a3.1.1 a3.1.2.1 m3
          rw [rE_sx] at n1
          have hlt : r0 ≠ none → rE (rVs ρ9 s9) a.2.2 < v0 := by
            intro hn
            cases e0 : r0 with
            | none => exact absurd e0 hn
            | some r =>
              rw [e0] at m4
              have n2 := rPv_ok a3.1.1 a3.1.2.1 m4
              rw [rE_pl, rE_sb, rE_sx] at n2
              obtain ⟨w1, w2⟩ := hr_q r e0
              rw [rE_same a1 w1, w2] at n2
              omega
          have hs9 : (∀ k, k < own9.2.2.1.1.length → rVs ρ9 s9 k = ρ0 k) ∧ rGv γ_q σ9.2.2.2.2.1.length 1 0 = γ0 0 := by
            refine ⟨fun k hk => (rId_ok m2 hk).trans ((a1 k (by omega)).trans (hs_q.1 k hk)), ?_⟩
            simp only [rGv]
            rw [if_neg (by decide)]
            exact hs_q.2
          have := hann a.1 a.2.1 a.2.2 ha (rVs ρ9 s9) (rGv γ_q σ9.2.2.2.2.1.length 1) lv_q st_q h_q c1 hs9 n1 hlt
          rw [← k0]
          exact xSafe_widen (Nat.add_le_add_right (by rw [← a5]; exact c2) K9) (Nat.add_le_add_right (by rw [← a5]; exact c3) N9) this
        · cases k3
      · exact ih q.1 q.2 ρ_q γ_q lv_q st_q h_q k3 g3 hs_q (by omega) hr_q
    · cases h1
/-- the whole body is checked -/
noncomputable def rOkB (fuel : Nat) (sc : Bool) (mx : List Nat) (W : List rGr) (T : List rIT) (own : rI) (J : List rI) (Bd : rBd) (ann : List (Nat × rS × rX)) (σ : rS) : Bool :=
  rEx sc mx W T own J Bd ann none fuel 0 σ && ann.all (fun a => Nat.ble own.2.2.1.1.length a.2.1.1.length && rWx a.2.1.1.length a.2.2 && rEx sc mx W T own J Bd ann (some a.2.2) fuel a.1 a.2.1)
/-- from the places with a pattern on -/
theorem rAnn_ok (C : xCx p s m args c cc nL Ts own D dA cl tA tyf B) (hE : xEnv D dA cl tA B nw nc ao s) (hlocks : meth.locks = false) (hRm : rRmo own9 R0 K9 N9 kc9 kn9) (hl0 : l.stackTraces = false) (hJ : ∀ (n : Nat) (I : rI), J[n]? = some I → ∀ d : aMd, mth[I.1]? = some d → rMt D dA cl tA B nw nc ao W0 l W T A b xn d.1 (aCw d) I) (hBg : aBg own Ts cl tA tyf [] nw nc W0 mth mx xn b meth s c cc nL Bd.1) (hCp : ∀ x ∈ Bd.2.2.2, xCpy own Ts x) (hKt : ∀ g ∈ W, 1000 ≤ g.1 → ∃ ty, (g.1, ty) ∈ tA) (hI : rInj W A) {xs : Nat → Int32} {sc : Bool} (hX : sc = true → (va_X b.1 b.2.1 xs s s.heap ∧ b.1 < s.heap.size ∧ ¬ B ≤ b.1) ∧ ∀ j : Nat, j < b.2.1 → γ0 0 (W.length - 1) 0 (j : Int) = (xs j).toInt) {fuel : Nat} (hk : ann.all (fun a => Nat.ble own9.2.2.1.1.length a.2.1.1.length && rWx a.2.1.1.length a.2.2 && rEx sc mx W T own9 J Bd ann (some a.2.2) fuel a.1 a.2.1) = true) :
    ∀ (n : Nat), ∀ (pc : Nat) (P : rS) (r : rX), (pc, P, r) ∈ ann → ∀ (ρ_q : Nat → Int) (γ_q : Nat → rHp) (lv_q : List (Nat × Value)) (st_q : List Value) (h_q : xH), rSt W T B A b own9.2.2.2.1 ρ_q γ_q P lv_q st_q h_q → ((∀ k, k < own9.2.2.1.1.length → ρ_q k = ρ0 k) ∧ γ_q 0 = γ0 0) → 0 ≤ rE ρ_q r → rE ρ_q r < n → xSafe p l e R0 s m args below meth c nL D dA cl tA B (yEnd below args s D dA cl tA B (rQf W T B A b ρ0 γ0 own9) (rXf W T B A b ρ0 γ0 xn own9) kc9 kn9 R0.cells R0.slots) pc lv_q st_q h_q (P.2.2.2.2.2.2.1 + K9) (P.2.2.2.2.2.2.2 + N9) := by
  intro n
  induction n with
  | zero => intro pc P r _ ρ_q γ_q lv_q st_q h_q _ _ h9 h10; omega
  | succ n ih =>
    intro pc P r hin ρ_q γ_q lv_q st_q h_q g1 g2 g4 g5
    have h2 := List.all_eq_true.mp hk _ hin
    simp only [Bool.and_eq_true] at h2
    obtain ⟨⟨j1, j3⟩, j4⟩ := h2
    refine rEx_ok (r0 := some r) (v0 := rE ρ_q r) C hE hlocks hRm hl0 hJ hBg hCp hKt hI hX ?_ fuel pc P ρ_q γ_q lv_q st_q h_q j4 g1 g2 (Nat.le_of_ble_eq_true j1) ?_
    · intro pc2 P2 r2 hin2 ρ2 γ2 lv2 st2 h2 f1 f2 f4 f5
      have := f5 (by simp)
      exact ih pc2 P2 r2 hin2 ρ2 γ2 lv2 st2 h2 f1 f2 f4 (by omega)
    · intro r_q hr_q
      cases hr_q
      exact ⟨j3, rfl⟩
theorem rOkB_ok (C : xCx p s m args c cc nL Ts own D dA cl tA tyf B) (hE : xEnv D dA cl tA B nw nc ao s) (hlocks : meth.locks = false) (hRm : rRmo own9 R0 K9 N9 kc9 kn9) (hl0 : l.stackTraces = false) (hJ : ∀ (n : Nat) (I : rI), J[n]? = some I → ∀ d : aMd, mth[I.1]? = some d → rMt D dA cl tA B nw nc ao W0 l W T A b xn d.1 (aCw d) I) (hBg : aBg own Ts cl tA tyf [] nw nc W0 mth mx xn b meth s c cc nL Bd.1) (hCp : ∀ x ∈ Bd.2.2.2, xCpy own Ts x) (hKt : ∀ g ∈ W, 1000 ≤ g.1 → ∃ ty, (g.1, ty) ∈ tA) (hI : rInj W A) {xs : Nat → Int32} {sc : Bool} (hX : sc = true → (va_X b.1 b.2.1 xs s s.heap ∧ b.1 < s.heap.size ∧ ¬ B ≤ b.1) ∧ ∀ j : Nat, j < b.2.1 → γ0 0 (W.length - 1) 0 (j : Int) = (xs j).toInt) {fuel : Nat} (hk : rOkB fuel sc mx W T own9 J Bd ann σ = true) (hA : rSt W T B A b own9.2.2.2.1 ρ0 γ0 σ lv st h) (hm : own9.2.2.1.1.length ≤ σ.1.length) : xSafe p l e R0 s m args below meth c nL D dA cl tA B (yEnd below args s D dA cl tA B (rQf W T B A b ρ0 γ0 own9) (rXf W T B A b ρ0 γ0 xn own9) kc9 kn9 R0.cells R0.slots) 0 lv st h (σ.2.2.2.2.2.2.1 + K9) (σ.2.2.2.2.2.2.2 + N9) := by
  simp only [rOkB, Bool.and_eq_true] at hk
  obtain ⟨k1, k2⟩ := hk
  refine rEx_ok (r0 := none) (v0 := 0) C hE hlocks hRm hl0 hJ hBg hCp hKt hI hX ?_ fuel 0 σ ρ0 γ0 lv st h k1 hA ⟨fun _ _ => rfl, rfl⟩ hm (fun r hr => by cases hr)
  intro pc2 P2 r2 hin2 ρ2 γ2 lv2 st2 h2 f1 f2 f4 f5
  exact rAnn_ok C hE hlocks hRm hl0 hJ hBg hCp hKt hI hX k2 ((rE ρ2 r2).toNat + 1) pc2 P2 r2 hin2 ρ2 γ2 lv2 st2 h2 f1 f2 f4 (by omega)
end XXr
/-! ===== all cases ===== -/
noncomputable def rArgs : Nat → List rV → List (Nat × rV)
  | _, [] => []
  | i, v :: vs => (i, v) :: rArgs (if rcat v = 2 then i + 2 else i + 1) vs
/-- how the body begins: the arguments are locals -/
noncomputable def rEnt (I : rI) : rS := (I.2.2.1.1, I.2.2.1.2.1, rArgs 0 I.2.2.1.2.2.2.1, [], I.2.2.1.2.2.2.2.1, I.2.2.1.2.2.2.2.2.1, 0, 0)
theorem rArgs_ok {W : List rGr} {A : rA} {ρ : Nat → Int} {b : aSc} : ∀ {U : List rV} {av : List Value} {i : Nat}, rStk W A ρ b U av → ∀ q ∈ rArgs i U, ∃ x, xget (lv_args i av) q.1 = some x ∧ rMv W A ρ b q.2 x ∧ i ≤ q.1
  | [], _, _, _, q, hq => by cases hq
  | v :: U, x :: av, i, h, q, hq => by
    simp only [rArgs] at hq
    have hc := rcat_ok h.1
    rcases List.mem_cons.mp hq with rfl | hq
    · refine ⟨x, ?_, h.1, Nat.le_refl _⟩
      simp only [lv_args, xget]
      rw [List.find?_cons_of_pos (by simp)]
      rfl
    · obtain ⟨y, h1, h2, h3⟩ := rArgs_ok h.2 q hq
      have h4 : i < q.1 := by split at h3 <;> omega
      refine ⟨y, ?_, h2, Nat.le_of_lt h4⟩
      simp only [lv_args]
      rw [xget_cons_ne (by omega), hc]
      exact h1
  | _ :: _, [], _, h, _, _ => h.elim
theorem rSl_len {W : List rGr} {A : rA} {ρ : Nat → Int} {b : aSc} : ∀ {U : List rV} {av : List Value}, rStk W A ρ b U av → (lg_sl av).length = (U.map rcat).sum
  | [], [], _ => rfl
  | v :: U, x :: av, h => by
    have hc := rcat_ok h.1
    have hi := rSl_len h.2
    unfold lg_sl at hi ⊢
    simp only [List.flatMap_cons, List.length_append, List.map_cons, List.sum_cons, hi]
    rw [hc]
    unfold rcat
    split <;> simp
  | [], _ :: _, h => h.elim
  | _ :: _, [], h => h.elim
section XZr
variable {D : va_G} {dA : Nat → ClassId} {cl : List vw_C} {tA : List (Nat × FieldType)} {tyf : Nat → Nat → FieldType} {B : Nat} {nw : List Cond} {nc : List (String × String)} {ao : List String} {W0 : List Cond} {l : Launch} {W : List rGr} {T : List rIT} {A : rA} {b : aSc} {xn : List String} {mth : List aMd} {mx : List Nat} {J : List rI} {d : aMd} {I : rI} {Bd : rBd} {ann : List (Nat × rS × rX)}
theorem rCp_mem {own : String} {w : Cond} {W0 : List Cond} {x : Nat} (h : xCpy own W0 x) : xCpy own (w :: W0) x := ⟨List.mem_cons_of_mem _ h.1, List.mem_cons_of_mem _ h.2.1, List.mem_cons_of_mem _ h.2.2.1, List.mem_cons_of_mem _ h.2.2.2⟩
theorem rMt_of (hsg : aSg cl tA tyf [] nw nc ao W0 mth mx xn d Bd.1) (hcp : ∀ x ∈ Bd.2.2.2, xCpy d.1.cls W0 x) (hy : plainFor d.1 = true) (hTab : xTab cl tA tyf W0) (hl0 : l.stackTraces = false) (hL : b.2.1 < 2147483648) (hKt : ∀ g ∈ W, 1000 ≤ g.1 → ∃ ty, (g.1, ty) ∈ tA) (hI : rInj W A) (hJ : ∀ (n : Nat) (I : rI), J[n]? = some I → ∀ d : aMd, mth[I.1]? = some d → rMt D dA cl tA B nw nc ao W0 l W T A b xn d.1 (aCw d) I)
    {fuel : Nat} (hk : rOkB fuel false mx W T I J Bd ann (rEnt I) = true) (ha : (I.2.2.1.2.2.2.1.map rcat).sum ≤ d.2.2.1) : rMt D dA cl tA B nw nc ao W0 l W T A b xn d.1 (aCw d) I := by
  intro ρ γ av h hA
  have hA_q : rSt W T B A b I.2.2.2.1 ρ γ (rEnt I) (lv_args 0 av) [] h := ⟨hA.1, (fun q hq => by
    obtain ⟨x, h1, h2, -⟩ := rArgs_ok hA.2.2.1 q hq
    exact ⟨x, h1, h2⟩), trivial, hA.2.2.2⟩
  have hav : (lg_sl av).length ≤ d.2.2.1 := by
    rw [rSl_len hA.2.2.1]
    exact ha
  have hT : ∀ cw, xTab cl tA tyf (cw :: W0) := fun cw => ⟨fun ci r hr => by
    obtain ⟨g1, g2, g3⟩ := hTab.1 ci r hr
    exact ⟨g1, fun w hw => List.mem_cons_of_mem _ (g2 w hw), g3⟩, hTab.2⟩
  unfold aCw
  split
  · rename_i hh
    refine yMet_of (tyf := tyf) hy (hT _) hav (fun p e s m args below meth c C hE hlocks hr hn hnt => ?_)
    have hx : c.exceptionTable.toList = tableOf d.2.2.2.2 := by
      rw [hh]
      cases hc : c.exceptionTable.toList with
      | nil => rfl
      | cons z zs => exact (hnt z (by rw [hc]; exact List.mem_cons_self)).elim
    exact rOkB_ok (K9 := 0) (N9 := 0) (xs := fun _ => 0) C hE hlocks (rRmo_self I) hl0 hJ (aSg_bg (fun w hw => List.mem_cons_of_mem _ hw) hsg hL hE hn hr hx) (fun x hx => rCp_mem (hcp x hx)) hKt hI (fun q => by cases q) hk hA_q (Nat.le_refl _)
  · rename_i hh
    refine yMet_ofH (tyf := tyf) hy (hT _) hav (fun p e s m args below meth c C hE hlocks hr hn hx => ?_)
    exact rOkB_ok (K9 := 0) (N9 := 0) (xs := fun _ => 0) C hE hlocks (rRmo_self I) hl0 hJ (aSg_bg (fun w hw => List.mem_cons_of_mem _ hw) hsg hL hE hn hr hx) (fun x hx => rCp_mem (hcp x hx)) hKt hI (fun q => by cases q) hk hA_q (Nat.le_refl _)
/-- the case n is checked, with those ahead of it; an: patterns, hints, cuts -/
noncomputable def rCkn (fuel : Nat) (mx : List Nat) (W : List rGr) (T : List rIT) (JL : List rI) (an : List (List (Nat × rS × rX) × List rHn × List (Nat × Nat × Int) × List Nat)) (bds : List aBd) (n : Nat) : Bool := match JL[n]?, an[n]? with
  | some I, some a => (match bds[I.1]? with
    | some Bd => rOkB fuel false mx W T I (JL.take n) (Bd, a.2) a.1 (rEnt I) && Nat.ble (I.2.2.1.2.2.2.1.map rcat).sum (mx.getD I.1 0)
    | none => false)
  | _, _ => false
theorem rAllMt {bds : List aBd} {JL : List rI} {an : List (List (Nat × rS × rX) × List rHn × List (Nat × Nat × Int) × List Nat)} {fuel : Nat} (hsg : ∀ (k : Nat) (d : aMd) (Bd : aBd), mth[k]? = some d → bds[k]? = some Bd → aSg cl tA tyf [] nw nc ao W0 mth mx xn d Bd ∧ plainFor d.1 = true ∧ mx.getD k 0 = d.2.2.1) (hcp : ∀ (n : Nat) (I : rI) (a : List (Nat × rS × rX) × List rHn × List (Nat × Nat × Int) × List Nat) (d : aMd), JL[n]? = some I → an[n]? = some a → mth[I.1]? = some d → ∀ x ∈ a.2.2.2, xCpy d.1.cls W0 x) (hTab : xTab cl tA tyf W0) (hl0 : l.stackTraces = false) (hL : b.2.1 < 2147483648) (hKt : ∀ g ∈ W, 1000 ≤ g.1 → ∃ ty, (g.1, ty) ∈ tA) (hI : rInj W A)
    (hck : ∀ n, n < JL.length → rCkn fuel mx W T JL an bds n = true) : ∀ (n : Nat) (I : rI), JL[n]? = some I → ∀ d : aMd, mth[I.1]? = some d → rMt D dA cl tA B nw nc ao W0 l W T A b xn d.1 (aCw d) I := by
  intro n
  induction n using Nat.strongRecOn with
  | ind n ih =>
    intro I hI2 d hd
    have h1 := hck n (List.getElem?_eq_some_iff.mp hI2).1
    unfold rCkn at h1
    rw [hI2] at h1
    split at h1
    · rename_i I_q a hI_q ha
      cases hI_q
      split at h1
      · rename_i Bd hBd
        simp only [Bool.and_eq_true] at h1
        obtain ⟨g1, g2, g3⟩ := hsg _ d Bd hd hBd
        refine rMt_of (Bd := (Bd, a.2)) g1 (hcp n I a d hI2 ha hd) g2 hTab hl0 hL hKt hI (fun k I2 hk d2 hd2 => ?_) h1.1 (by rw [← g3]; exact Nat.le_of_ble_eq_true h1.2)
        have hlt : k < n := by
          have := (List.getElem?_eq_some_iff.mp hk).1
          simp at this
          omega
        rw [List.getElem?_take_of_lt hlt] at hk
        exact ih k hlt I2 hk d2 hd2
      · cases h1
    · cases h1
end XZr
