/-! ===== a body's run cut at a frontier ===== -/
noncomputable def rFf (sc : Bool) (mx : List Nat) (W : List rGr) (T : List rIT) (own : rI) (J : List rI) (Bd : rBd) (ann : List (Nat × rS × rX)) (r0 : Option rX) : Nat → Nat → rS → Option (List (Nat × rS))
  | 0, pc, σ => some [(pc, σ)]
  | n + 1, pc, σ => (match rSp sc mx W T own J Bd σ pc with
    | some l => aAll (l.map (fun q => if Nat.ble σ.1.length q.2.1.length = true then (if ann.any (fun a => Nat.beq a.1 q.1 && rMg W T own.2.2.2.1 own.2.2.1.1.length r0 q.2 a.2) = true then some [] else rFf sc mx W T own J Bd ann r0 n q.1 q.2) else none))
    | none => none)
theorem rFf_ok {sc : Bool} {mx : List Nat} {W : List rGr} {T : List rIT} {own : rI} {J : List rI} {Bd : rBd} {ann : List (Nat × rS × rX)} {r0 : Option rX} {f : Nat} : ∀ {n pc : Nat} {σ : rS} {L : List (Nat × rS)}, rFf sc mx W T own J Bd ann r0 n pc σ = some L → (∀ q ∈ L, rEx sc mx W T own J Bd ann r0 f q.1 q.2 = true) → rEx sc mx W T own J Bd ann r0 (f + n) pc σ = true
  | 0, pc, σ, L, h, hk => by
    cases h
    exact hk _ List.mem_cons_self
  | n + 1, pc, σ, L, h, hk => by
    unfold rFf at h
    show rEx sc mx W T own J Bd ann r0 ((f + n) + 1) pc σ = true
    unfold rEx
    split at h
    · rename_i l hl
      rw [hl]
      refine List.all_eq_true.mpr fun q hq => ?_
      obtain ⟨x, h1, h2⟩ := aAll_in h _ (List.mem_map.mpr ⟨q, hq, rfl⟩)
      split at h1
      · rename_i hb
        simp only [Bool.and_eq_true, Bool.or_eq_true]
        refine ⟨hb, ?_⟩
        split at h1
        · rename_i ha
          exact Or.inl ha
        · exact Or.inr (rFf_ok h1 (fun z hz => hk z (h2 z hz)))
      · cases h1
    · cases h
/-- the place i of the frontier -/
noncomputable def rFq (sc : Bool) (mx : List Nat) (W : List rGr) (T : List rIT) (own : rI) (J : List rI) (Bd : rBd) (ann : List (Nat × rS × rX)) (r0 : Option rX) (f n pc : Nat) (σ : rS) (i : Nat) : Bool := match rFf sc mx W T own J Bd ann r0 n pc σ with
  | some L => (match L[i]? with
    | some q => rEx sc mx W T own J Bd ann r0 f q.1 q.2
    | none => true)
  | none => false
noncomputable def rFn (sc : Bool) (mx : List Nat) (W : List rGr) (T : List rIT) (own : rI) (J : List rI) (Bd : rBd) (ann : List (Nat × rS × rX)) (r0 : Option rX) (n pc : Nat) (σ : rS) (N : Nat) : Bool := match rFf sc mx W T own J Bd ann r0 n pc σ with
  | some L => Nat.ble L.length N
  | none => false
theorem rFq_ok {sc : Bool} {mx : List Nat} {W : List rGr} {T : List rIT} {own : rI} {J : List rI} {Bd : rBd} {ann : List (Nat × rS × rX)} {r0 : Option rX} {f n pc : Nat} {σ : rS} {N : Nat} (hN : rFn sc mx W T own J Bd ann r0 n pc σ N = true) (h : ∀ i ∈ List.range N, rFq sc mx W T own J Bd ann r0 f n pc σ i = true) : rEx sc mx W T own J Bd ann r0 (f + n) pc σ = true := by
  unfold rFn at hN
  split at hN
  · rename_i L hL
    refine rFf_ok hL fun q hq => ?_
    obtain ⟨i, hi⟩ := List.mem_iff_getElem?.mp hq
    have hlt := (List.getElem?_eq_some_iff.mp hi).1
    have := h i (List.mem_range.mpr (Nat.lt_of_lt_of_le hlt (Nat.le_of_ble_eq_true hN)))
    unfold rFq at this
    rw [hL] at this
    dsimp only at this
    rw [hi] at this
    exact this
  · cases hN
/-! the run up to given places, as it is -/
noncomputable def rUt (sc : Bool) (mx : List Nat) (W : List rGr) (T : List rIT) (own : rI) (J : List rI) (Bd : rBd) (stop : Nat → Bool) : Nat → Nat → rS → Option (List (Nat × rS))
  | 0, _, _ => none
  | n + 1, pc, σ => (match rSp sc mx W T own J Bd σ pc with
    | some l => aAll (l.map (fun q => if Nat.ble σ.1.length q.2.1.length = true ∧ Nat.ble σ.2.2.2.2.1.length q.2.2.2.2.2.1.length = true then (if stop q.1 = true then some [q] else rUt sc mx W T own J Bd stop n q.1 q.2) else none))
    | none => none)
section XUt
variable {p : Program} {l : Launch} {e : Env} {R0 : Room} {s : State} {m : MethodId} {args : Array Value} {below : List Frame} {meth : Method} {c : Code} {K9 N9 : Nat}
variable {cc : ByteArray} {nL : Nat} {Ts : List Cond} {own : String} {D : va_G} {dA : Nat → ClassId} {cl : List vw_C} {tA : List (Nat × FieldType)} {tyf : Nat → Nat → FieldType} {B : Nat}
variable {W : List rGr} {T : List rIT} {A : rA} {b : aSc}
variable {kc9 kn9 : Nat} {own9 : rI} {ρ0 : Nat → Int} {γ0 : Nat → rHp} {xn : List String} {nw : List Cond} {nc : List (String × String)} {ao : List String} {W0 : List Cond} {mth : List aMd} {mx : List Nat} {J : List rI}
variable {Bd : rBd} {stop : Nat → Bool}
theorem rUt_ok (C : xCx p s m args c cc nL Ts own D dA cl tA tyf B) (hE : xEnv D dA cl tA B nw nc ao s) (hlocks : meth.locks = false) (hRm : rRmo own9 R0 K9 N9 kc9 kn9) (hl0 : l.stackTraces = false) (hJ : ∀ (n : Nat) (I : rI), J[n]? = some I → ∀ d : aMd, mth[I.1]? = some d → rMt D dA cl tA B nw nc ao W0 l W T A b xn d.1 (aCw d) I) (hBg : aBg own Ts cl tA tyf [] nw nc W0 mth mx xn b meth s c cc nL Bd.1) (hCp : ∀ x ∈ Bd.2.2.2, xCpy own Ts x) (hKt : ∀ g ∈ W, 1000 ≤ g.1 → ∃ ty, (g.1, ty) ∈ tA) (hI : rInj W A) {xs : Nat → Int32} {sc : Bool} (hX : sc = true → (va_X b.1 b.2.1 xs s s.heap ∧ b.1 < s.heap.size ∧ ¬ B ≤ b.1) ∧ ∀ j : Nat, j < b.2.1 → γ0 0 (W.length - 1) 0 (j : Int) = (xs j).toInt) :
    ∀ (n pc : Nat) (σ : rS) (ρ : Nat → Int) (γ : Nat → rHp) (lv : List (Nat × Value)) (st : List Value) (h : xH) (L : List (Nat × rS)), rUt sc mx W T own9 J Bd stop n pc σ = some L → rSt W T B A b own9.2.2.2.1 ρ γ σ lv st h → ((∀ k, k < own9.2.2.1.1.length → ρ k = ρ0 k) ∧ γ 0 = γ0 0) → own9.2.2.1.1.length ≤ σ.1.length →
      (∀ q ∈ L, ∀ (ρ_q : Nat → Int) (γ_q : Nat → rHp) (lv_q : List (Nat × Value)) (st_q : List Value) (h_q : xH), rSm0 σ ρ ρ_q γ γ_q → rSt W T B A b own9.2.2.2.1 ρ_q γ_q q.2 lv_q st_q h_q → xSafe p l e R0 s m args below meth c nL D dA cl tA B (yEnd below args s D dA cl tA B (rQf W T B A b ρ0 γ0 own9) (rXf W T B A b ρ0 γ0 xn own9) kc9 kn9 R0.cells R0.slots) q.1 lv_q st_q h_q (q.2.2.2.2.2.2.2.1 + K9) (q.2.2.2.2.2.2.2.2 + N9)) →
      xSafe p l e R0 s m args below meth c nL D dA cl tA B (yEnd below args s D dA cl tA B (rQf W T B A b ρ0 γ0 own9) (rXf W T B A b ρ0 γ0 xn own9) kc9 kn9 R0.cells R0.slots) pc lv st h (σ.2.2.2.2.2.2.1 + K9) (σ.2.2.2.2.2.2.2 + N9) := by
  intro n
  induction n with
  | zero => intro pc σ ρ γ lv st h L h1; cases h1
  | succ n ih =>
    intro pc σ ρ γ lv st h L h1 hA hs hm kk
    unfold rUt at h1
    split at h1
    · rename_i l1 hl1
      refine rSp_ok C hE hlocks hRm hl0 hJ hBg hCp hKt hI hX hA hs hm hl1 ?_
      intro q hq ρ_q γ_q lv_q st_q h_q g1 g3
      obtain ⟨x, h2, h3⟩ := aAll_in h1 _ (List.mem_map.mpr ⟨q, hq, rfl⟩)
      split at h2
      · rename_i hb
        have hb1 := Nat.le_of_ble_eq_true hb.1
        have hb2 := Nat.le_of_ble_eq_true hb.2
        split at h2
        · cases h2
          exact kk q (h3 q List.mem_cons_self) ρ_q γ_q lv_q st_q h_q g1 g3
        · refine ih q.1 q.2 ρ_q γ_q lv_q st_q h_q x h2 g3 ⟨fun k hk => (g1.1 k (by omega)).trans (hs.1 k hk), (g1.2 0 (Nat.zero_le _)).trans hs.2⟩ (by omega) (fun z hz ρ2 γ2 lv2 st2 h9 f1 f2 => kk z (h3 z hz) ρ2 γ2 lv2 st2 h9 ⟨fun k hk => (f1.1 k (by omega)).trans (g1.1 k hk), fun k hk => (f1.2 k (by omega)).trans (g1.2 k hk)⟩ f2)
      · cases h2
    · cases h1
end XUt
