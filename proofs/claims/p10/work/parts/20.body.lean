/-! ===== the checker: a method's body ===== -/
/-- a method's body for the checker: its locals, its code by places, its tables, its calls, its throws (place, exception, two indices), its handlers, its answer's type -/
abbrev aBd : Type := Nat × List (Nat × Instr × Nat) × aTb × List aIv × List (Nat × Nat × Nat × Nat) × List (Nat × Nat × Nat × Nat × Nat) × Nat
def aOr {γ : Type} (a b : Option γ) : Option γ := match a with
  | some x => some x
  | none => b
theorem aOr_at {γ : Type} {a b : Option γ} {x : γ} (h : aOr a b = some x) : a = some x ∨ b = some x := by
  unfold aOr at h
  split at h
  · rename_i y
    exact Or.inl h
  · exact Or.inr h
def aPbl (kd : List aKd) (M : aTb) (σ : aS) (pc : Nat) : Option aS := match aF1 M.2.2.2.2.2.1 pc with
  | some K => (match σ.2.2.2.1 with | v :: _ => if v.1 = 2 then aPub kd σ v.2.1 K else none | [] => none)
  | none => some σ
def aThw (own : aI) (Bd : aBd) (σ : aS) (pc : Nat) (q : Nat × Nat × Nat) : Option (List (Nat × aS)) :=
  if aF1 Bd.2.1 pc = some (.new q.2.1, 3) ∧ aF1 Bd.2.1 (pc + 3) = some (.dup, 1) ∧ aF1 Bd.2.1 (pc + 4) = some (.invokespecial q.2.2, 3) ∧ aF1 Bd.2.1 (pc + 7) = some (.athrow, 1) ∧ Bd.2.2.2.2.2.1.isEmpty = true ∧ aTw own σ q.1 = true then some [] else none
def a7 (S : List aV) : Bool := S.all (fun v => !(Nat.beq v.1 7))
def aOne1 (sc : Bool) (mx : List Nat) (kd : List aKd) (own : aI) (J : List aI) (Bd : aBd) (σ : aS) (pc : Nat) (i : Instr) (len : Nat) : Option (List (Nat × aS)) :=
  aOr (asL σ i len pc) (aOr (as0 σ i len pc) (aOr (asG kd Bd.2.2.1 σ i len pc) (aOr (asC σ (aF1 Bd.2.1 (pc + 1)) i len pc) (aOr (asB σ i len pc) (aOr (as2 σ i len pc) (aOr (asW Bd.1 σ i len pc) (aOr (asP kd Bd.2.2.1 σ i len pc)
  (aOr (if sc = true ∨ a7 σ.2.2.2.1 = true then asA kd σ i len pc else none) (aOr (asT kd σ i len pc) (aOr (asI Bd.1 σ i len pc) (aOr (asS σ i len pc) (aOr (as1 σ i len pc) (aOr (asK Bd.2.2.1 σ i len pc) (aOr (asN own.2.1.2.1 own.2.1.2.2.1 kd Bd.2.2.1 σ i len pc) (aOr (if sc = true ∨ a7 σ.2.2.2.1 = true then asH kd σ i len pc else none) (aOr (asX σ i pc)
  (aOr (asV mx kd own Bd.2.2.2.2.2.1 J Bd.2.2.2.1 σ i len pc) (if σ.2.2.2.2.2.1 ≤ own.2.1.2.1 ∧ σ.2.2.2.2.2.2 ≤ own.2.1.2.2.1 then asR own Bd.2.2.2.2.2.2 σ i len else none))))))))))))))))))
def aSp (sc : Bool) (mx : List Nat) (kd : List aKd) (own : aI) (J : List aI) (Bd : aBd) (σ : aS) (pc : Nat) : Option (List (Nat × aS)) := match aF1 Bd.2.2.2.2.1 pc with
  | some q => aThw own Bd σ pc q
  | none => (match aF1 Bd.2.1 pc, aPbl kd Bd.2.2.1 σ pc with
    | some il, some σ1 => aOne1 sc mx kd own J Bd σ1 pc il.1 il.2
    | _, _ => none)
/-- what is true of a body's tables -/
def aBg (own : String) (Ts : List Cond) (cl : List vw_C) (tA : List (Nat × FieldType)) (tyf : Nat → Nat → FieldType) (kd : List aKd) (nw : List Cond) (nc : List (String × String)) (W0 : List Cond) (mth : List aMd) (mx : List Nat) (xn : List String) (b : aSc) (meth : Method) (s : State) (c : Code) (cc : ByteArray) (nL : Nat) (Bd : aBd) : Prop :=
  Bd.1 = nL ∧ (∀ q ∈ Bd.2.1, decode cc q.1 = .ok (q.2.1, q.2.2)) ∧ aGd own Ts cl tA tyf meth s b Bd.2.2.1 ∧ aKt kd tA ∧ (∀ q ∈ Bd.2.2.2.1, aIg own Ts cl nw W0 mth mx q) ∧
  (∀ q ∈ Bd.2.2.2.2.1, ∃ X, xn[q.2.1]? = some X ∧ Bundle.fit X = true ∧ Cond.classLink own q.2.2.1 X ∈ Ts ∧ Cond.initialized X ∈ Ts ∧ (∀ w ∈ vx_at0 own q.2.2.2 X aChain, w ∈ Ts ∨ w ∈ nw) ∧ ∀ w ∈ Cond.classLink own q.2.2.1 X :: Cond.initialized X :: vx_at0 own q.2.2.2 X aChain, vx_ot w = true) ∧
  aHg own Ts xn nw nc c Bd.2.2.2.2.2.1 ∧ aRc Bd.2.2.2.2.2.2 meth.sig.returnType
section XO
variable {p : Program} {l : Launch} {e : Env} {R0 : Room} {s : State} {m : MethodId} {args : Array Value} {below : List Frame} {meth : Method} {c : Code} {Q : State → Prop}
variable {cc : ByteArray} {nL : Nat} {Ts : List Cond} {own : String} {D : va_G} {dA : Nat → ClassId} {cl : List vw_C} {tA : List (Nat × FieldType)} {tyf : Nat → Nat → FieldType} {B : Nat}
variable {kd : List aKd} {b : aSc} {P : Nat → Prop} {h0 : xH} {ρ : Nat → Int} {α τ : Nat → Option Nat} {σ : aS} {pc len : Nat} {lv : List (Nat × Value)} {st : List Value} {h : xH} {i : Instr} {l1 : List (Nat × aS)}
variable {hI : xH} {own9 I : aI} {ρ0 : Nat → Int} {α0 τ0 : Nat → Option Nat} {xn : List String} {nw : List Cond} {nc : List (String × String)} {ao : List String} {W0 : List Cond} {mth : List aMd} {mx : List Nat} {J : List aI} {Bd : aBd}
theorem aSp_ok (C : xCx p s m args c cc nL Ts own D dA cl tA tyf B) (hE : xEnv D dA cl tA B nw nc ao s) (hlocks : meth.locks = false) (hl0 : l.stackTraces = false) (hJ : ∀ (n : Nat) (I : aI), J[n]? = some I → ∀ d : aMd, mth[I.1]? = some d → aMt D dA cl tA B nw nc ao W0 l kd b xn d.1 (aCw d) I)
    (hBg : aBg own Ts cl tA tyf kd nw nc W0 mth mx xn b meth s c cc nL Bd) {xs : Nat → Int32} {sc : Bool} (hX : sc = true → va_X b.1 b.2.1 xs s s.heap ∧ b.1 < s.heap.size ∧ ¬ B ≤ b.1 ∧ ∀ j : Nat, j < b.2.1 → b.2.2 j = (xs j).toInt)
    (hA : aSx kd B b P hI ρ α τ σ lv st h) (hs : aSame own9.2.2.1.length own9.2.2.2.1 ρ0 ρ α0 α) (hm : own9.2.2.1.length ≤ σ.1.length) (hma : own9.2.2.2.1 ≤ σ.2.1) (hb : aSub τ0 τ) (h1 : aSp sc mx kd own9 J Bd σ pc = some l1) (kk : (∀ q ∈ l1, ∀ (ρ_q : Nat → Int) (α_q τ_q : Nat → Option Nat) (lv_q : List (Nat × Value)) (st_q : List Value) (h_q : xH), aSame σ.1.length σ.2.1 ρ ρ_q α α_q → aSub τ τ_q → aSx kd B b P hI ρ_q α_q τ_q q.2 lv_q st_q h_q → xSafe p l e (aIr own9) s m args below meth c nL D dA cl tA B (xEnd below args s D dA cl tA B (aQf kd B b P hI ρ0 α0 τ0 own9) (aXf kd B b P hI ρ0 α0 τ0 xn own9) (aIr own9).cells (aIr own9).slots) q.1 lv_q st_q h_q q.2.2.2.2.2.2.1 q.2.2.2.2.2.2.2)) : xSafe p l e (aIr own9) s m args below meth c nL D dA cl tA B (xEnd below args s D dA cl tA B (aQf kd B b P hI ρ0 α0 τ0 own9) (aXf kd B b P hI ρ0 α0 τ0 xn own9) (aIr own9).cells (aIr own9).slots) pc lv st h σ.2.2.2.2.2.1 σ.2.2.2.2.2.2 := by
  obtain ⟨b1, b2, b3, b4, b5, b6, b7, b8⟩ := hBg
  unfold aSp at h1
  split at h1
  · rename_i q hq
    unfold aThw at h1
    split at h1
    · rename_i hc
      obtain ⟨d0, d3, d4, d7, e1, e2⟩ := hc
      obtain ⟨X, g1, g2, g3, g4, g5, g6⟩ := b6 _ (aF1_mem hq)
      have hnt : ∀ z ∈ c.exceptionTable.toList, False := fun z hz => by
        rw [b7.1, List.isEmpty_iff.mp e1] at hz
        simp [tableOf] at hz
      have f0 := b2 _ (aF1_mem d0)
      have f3 := b2 _ (aF1_mem d3)
      have f4 := b2 _ (aF1_mem d4)
      have f7 := b2 _ (aF1_mem d7)
      dsimp only at g1 g3 g5 g6 f0 f3 f4 f7
      exact asY_ok (x := q.1) (ik := q.2.1) (ic := q.2.2) (X := X) C hE hlocks hnt hl0 g1 g2 g3 g4 g5 g6 f0 f3 f4 f7 hA hs hb e2
    · cases h1
  · split at h1
    · rename_i il σ1 hil hpb
      have hdg := b2 _ (aF1_mem hil)
      dsimp only at hdg
      have hpub : ∃ τ1, aSub τ τ1 ∧ aSx kd B b P hI ρ α τ1 σ1 lv st h ∧ σ1.1 = σ.1 ∧ σ1.2.1 = σ.2.1 ∧ σ1.2.2.2.2.2 = σ.2.2.2.2.2 := by
        unfold aPbl at hpb
        split at hpb
        · split at hpb
          · split at hpb
            · obtain ⟨τ1, e1, e2, e3, e4, -, e5⟩ := aPub_ok hA hpb
              exact ⟨τ1, e1, e2, e3, e4, e5⟩
            · cases hpb
          · cases hpb
        · cases hpb
          exact ⟨τ, aSub_rf, hA, rfl, rfl, rfl⟩
      obtain ⟨τ1, t1, hA1, e1, e2, e3⟩ := hpub
      have kk1 : ∀ q ∈ l1, ∀ (ρ_q : Nat → Int) (α_q τ_q : Nat → Option Nat) (lv_q : List (Nat × Value)) (st_q : List Value) (h_q : xH), aSame σ1.1.length σ1.2.1 ρ ρ_q α α_q → aSub τ1 τ_q → aSx kd B b P hI ρ_q α_q τ_q q.2 lv_q st_q h_q → xSafe p l e (aIr own9) s m args below meth c nL D dA cl tA B (xEnd below args s D dA cl tA B (aQf kd B b P hI ρ0 α0 τ0 own9) (aXf kd B b P hI ρ0 α0 τ0 xn own9) (aIr own9).cells (aIr own9).slots) q.1 lv_q st_q h_q q.2.2.2.2.2.2.1 q.2.2.2.2.2.2.2 := by
        intro q hq ρ_q α_q τ_q lv_q st_q h_q g1 g2 g3
        rw [e1, e2] at g1
        exact kk q hq ρ_q α_q τ_q lv_q st_q h_q g1 (fun a K hK => g2 _ _ (t1 _ _ hK)) g3
      have hb1 : aSub τ0 τ1 := fun a K hK => t1 _ _ (hb _ _ hK)
      rw [← e1] at hm
      rw [← e2] at hma
      rw [show σ.2.2.2.2.2.1 = σ1.2.2.2.2.2.1 by rw [e3], show σ.2.2.2.2.2.2 = σ1.2.2.2.2.2.2 by rw [e3]]
      clear kk hA hpb e3 e1 e2
      have hX9 : ∀ {g : Prop}, (sc = true ∨ a7 σ1.2.2.2.1 = true) → ∀ r ∈ σ1.2.2.2.1, r.1 = 7 → va_X b.1 b.2.1 xs s s.heap ∧ b.1 < s.heap.size ∧ ¬ B ≤ b.1 ∧ ∀ j : Nat, j < b.2.1 → b.2.2 j = (xs j).toInt := by
        intro _ h9 r hr h7
        rcases h9 with h9 | h9
        · exact hX h9
        · have := List.all_eq_true.mp h9 r hr
          rw [h7] at this
          cases this
      unfold aOne1 at h1
      rcases aOr_at h1 with h1 | h1
      · exact asL_ok C hA1 hdg h1 kk1
      rcases aOr_at h1 with h1 | h1
      · exact as0_ok C hA1 hdg h1 kk1
      rcases aOr_at h1 with h1 | h1
      · exact asG_ok C b3 hA1 hdg h1 kk1
      rcases aOr_at h1 with h1 | h1
      · exact asC_ok C hA1 (fun q hq => by
          have h8 := b2 _ (aF1_mem hq)
          dsimp only at h8
          exact h8) hdg h1 kk1
      rcases aOr_at h1 with h1 | h1
      · exact asB_ok C hA1 hdg h1 kk1
      rcases aOr_at h1 with h1 | h1
      · exact as2_ok C hA1 hdg h1 kk1
      rcases aOr_at h1 with h1 | h1
      · rw [b1] at h1; exact asW_ok C hA1 hdg h1 kk1
      rcases aOr_at h1 with h1 | h1
      · exact asP_ok C b3 hA1 hdg h1 kk1
      rcases aOr_at h1 with h1 | h1
      · split at h1
        · rename_i h9
          exact asA_ok C b3 b4 (fun _ => hX9 (g := True) h9) hA1 hdg h1 kk1
        · cases h1
      rcases aOr_at h1 with h1 | h1
      · exact asT_ok C b3 b4 hA1 hdg h1 kk1
      rcases aOr_at h1 with h1 | h1
      · rw [b1] at h1; exact asI_ok C hA1 hdg h1 kk1
      rcases aOr_at h1 with h1 | h1
      · exact asS_ok C hA1 hdg h1 kk1
      rcases aOr_at h1 with h1 | h1
      · exact as1_ok C hA1 hdg h1 kk1
      rcases aOr_at h1 with h1 | h1
      · exact asK_ok C b3 hA1 hdg h1 kk1
      rcases aOr_at h1 with h1 | h1
      · exact asN_ok C b3 (Nat.le_refl _) (Nat.le_refl _) hA1 hdg h1 kk1
      rcases aOr_at h1 with h1 | h1
      · split at h1
        · rename_i h9
          exact asH_ok C b3 (hX9 (g := True) h9) hA1 hdg h1 kk1
        · cases h1
      rcases aOr_at h1 with h1 | h1
      · exact asX_ok C hA1 hdg h1 kk1
      rcases aOr_at h1 with h1 | h1
      · exact asV_ok C hE hlocks b7 hJ b5 hA1 hs hm hma hb1 hdg h1 kk1
      · split at h1
        · rename_i h9
          exact asR_ok C hlocks rfl b8 hA1 hs hb1 h9.1 h9.2 hdg h1
        · cases h1
    · cases h1
end XO
