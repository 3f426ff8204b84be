/-! ===== runs that are given as tables ===== -/
noncomputable def zLq {α : Type} (p : α → α → Bool) : List α → List α → Bool := @List.rec α (fun _ => List α → Bool) (fun m => @List.rec α (fun _ => Bool) true (fun _ _ _ => false) m) (fun x _ ih m => @List.rec α (fun _ => Bool) false (fun y r _ => rCo (p x y) (ih r) false) m)
theorem zLq_ok {α : Type} {p : α → α → Bool} (hp : ∀ x y, p x y = true → x = y) : ∀ {l m : List α}, zLq p l m = true → l = m
  | [], [], _ => rfl
  | [], _ :: _, h => by cases h
  | _ :: _, [], h => by cases h
  | x :: l, y :: m, h => by
    obtain ⟨h1, h2⟩ := rcn.mp (show rCo (p x y) (zLq p l m) false = true from h)
    rw [hp x y h1, zLq_ok hp h2]
noncomputable def zPq (x y : Int × Int) : Bool := rCo (rIq x.1 y.1) (rIq x.2 y.2) false
theorem zPq_ok (x y : Int × Int) (h : zPq x y = true) : x = y := by
  obtain ⟨h1, h2⟩ := rcn.mp h
  exact Prod.ext (rIq_ok h1) (rIq_ok h2)
noncomputable def zVq (x y : rV) : Bool := rCo (Nat.beq x.1 y.1) (rCo (Nat.beq x.2.1 y.2.1) (rXq x.2.2 y.2.2) false) false
theorem zVq_ok (x y : rV) (h : zVq x y = true) : x = y := by
  obtain ⟨h1, h⟩ := rcn.mp h
  obtain ⟨h2, h3⟩ := rcn.mp h
  exact Prod.ext (Nat.eq_of_beq_eq_true h1) (Prod.ext (Nat.eq_of_beq_eq_true h2) (rXq_ok h3))
noncomputable def zNq (x y : Nat) : Bool := Nat.beq x y
theorem zNq_ok (x y : Nat) (h : zNq x y = true) : x = y := Nat.eq_of_beq_eq_true h
noncomputable def zDq (x y : rD) : Bool := rCo (Nat.beq x.1 y.1) (rCo (Nat.beq x.2.1.1 y.2.1.1) (rCo (rXq x.2.1.2.1 y.2.1.2.1) (rCo (rXq x.2.1.2.2.1 y.2.1.2.2.1) (rCo (rXq x.2.1.2.2.2 y.2.1.2.2.2) (rCo (Nat.beq x.2.2.1 y.2.2.1) (zLq zNq x.2.2.2 y.2.2.2) false) false) false) false) false) false
theorem zDq_ok (x y : rD) (h : zDq x y = true) : x = y := by
  obtain ⟨h1, h⟩ := rcn.mp h
  obtain ⟨h2, h⟩ := rcn.mp h
  obtain ⟨h3, h⟩ := rcn.mp h
  obtain ⟨h4, h⟩ := rcn.mp h
  obtain ⟨h5, h⟩ := rcn.mp h
  obtain ⟨h6, h7⟩ := rcn.mp h
  exact Prod.ext (Nat.eq_of_beq_eq_true h1) (Prod.ext (Prod.ext (Nat.eq_of_beq_eq_true h2) (Prod.ext (rXq_ok h3) (Prod.ext (rXq_ok h4) (rXq_ok h5)))) (Prod.ext (Nat.eq_of_beq_eq_true h6) (zLq_ok zNq_ok h7)))
noncomputable def zMq (x y : rMm) : Bool := rCo (Nat.beq x.1 y.1) (rCo (Nat.beq x.2.1 y.2.1) (rCo (rXq x.2.2.1 y.2.2.1) (rCo (rXq x.2.2.2.1 y.2.2.2.1) (rXq x.2.2.2.2 y.2.2.2.2) false) false) false) false
theorem zMq_ok (x y : rMm) (h : zMq x y = true) : x = y := by
  obtain ⟨h1, h⟩ := rcn.mp h
  obtain ⟨h2, h⟩ := rcn.mp h
  obtain ⟨h3, h⟩ := rcn.mp h
  obtain ⟨h4, h5⟩ := rcn.mp h
  exact Prod.ext (Nat.eq_of_beq_eq_true h1) (Prod.ext (Nat.eq_of_beq_eq_true h2) (Prod.ext (rXq_ok h3) (Prod.ext (rXq_ok h4) (rXq_ok h5))))
noncomputable def zHq (x y : Nat ⊕ Instr) : Bool := match x, y with
  | .inl a, .inl b => Nat.beq a b
  | .inr a, .inr b => decide (a = b)
  | _, _ => false
theorem zHq_ok (x y : Nat ⊕ Instr) (h : zHq x y = true) : x = y := by
  unfold zHq at h
  split at h
  · rw [Nat.eq_of_beq_eq_true h]
  · rw [of_decide_eq_true h]
  · cases h
theorem zXq_ok (x y : rX) (h : rXq x y = true) : x = y := rXq_ok h
noncomputable def zGq (x y : zLg) : Bool := rCo (zHq x.1 y.1) (rCo (zLq rXq x.2.1 y.2.1) (rCo (Nat.beq x.2.2.1 y.2.2.1) (rCo (Nat.beq x.2.2.2.1 y.2.2.2.1) (rXq x.2.2.2.2 y.2.2.2.2) false) false) false) false
theorem zGq_ok (x y : zLg) (h : zGq x y = true) : x = y := by
  obtain ⟨h1, h⟩ := rcn.mp h
  obtain ⟨h2, h⟩ := rcn.mp h
  obtain ⟨h3, h⟩ := rcn.mp h
  obtain ⟨h4, h5⟩ := rcn.mp h
  exact Prod.ext (zHq_ok _ _ h1) (Prod.ext (zLq_ok zXq_ok h2) (Prod.ext (Nat.eq_of_beq_eq_true h3) (Prod.ext (Nat.eq_of_beq_eq_true h4) (rXq_ok h5))))
/-- P says no more than q -/
noncomputable def zSub (q P : zNx) : Bool := rCo (Nat.beq q.1 P.1) (rCo (Nat.beq q.2.1 P.2.1) (rCo (zLq zDq q.2.2.1.2.2.2.2.1 P.2.2.1.2.2.2.2.1) (rCo (zLq zGq q.2.2.2.1 P.2.2.2.1) (rCo (zLq rXq q.2.2.2.2 P.2.2.2.2) (rCo (zLq zVq q.2.2.1.2.2.2.1 P.2.2.1.2.2.2.1) (rCo (zLq zPq q.2.2.1.1 P.2.2.1.1)
  (rCo (rAa (fun x => rAy (rXq x) q.2.2.1.2.1) P.2.2.1.2.1) (rAa (fun x => rAy (zMq x) q.2.2.1.2.2.2.2.2.1) P.2.2.1.2.2.2.2.2.1) false) false) false) false) false) false) false) false
theorem zAy_ok {α : Type} {p : α → α → Bool} (hp : ∀ x y, p x y = true → x = y) {l m : List α} (h : rAa (fun x => rAy (p x) m) l = true) : ∀ x ∈ l, x ∈ m := by
  intro x hx
  rw [rAa_eq] at h
  have h1 := List.all_eq_true.mp h x hx
  have h2 : ∀ {m : List α}, rAy (p x) m = true → x ∈ m := by
    intro m
    induction m with
    | nil => intro h; cases h
    | cons y r ih =>
      intro h
      have h : rCo (p x y) true (rAy (p x) r) = true := h
      rw [rct] at h
      split at h
      · rename_i e
        rw [hp x y e]
        exact List.mem_cons_self
      · exact List.mem_cons_of_mem _ (ih h)
  exact h2 h1
theorem zSub_ok {W : List rGr} {T : List rIT} {i0 : List Nat} {m : Nat} {S : Nat → zSpc} {a : List Int} {g : rHp} {q P : zNx} {ρ : Nat → Int} {γ : Nat → rHp} (h : zSub q P = true) (hF : zF0 W T i0 m S a g q ρ γ) : zF0 W T i0 m S a g P ρ γ ∧ P.1 = q.1 ∧ P.2.1 = q.2.1 ∧ P.2.2.1.2.2.2.2.1 = q.2.2.1.2.2.2.2.1 ∧ P.2.2.2.2 = q.2.2.2.2 ∧ P.2.2.1.2.2.2.1 = q.2.2.1.2.2.2.1 := by
  obtain ⟨h1, h⟩ := rcn.mp h
  obtain ⟨h2, h⟩ := rcn.mp h
  obtain ⟨h3, h⟩ := rcn.mp h
  obtain ⟨h4, h⟩ := rcn.mp h
  obtain ⟨h5, h⟩ := rcn.mp h
  obtain ⟨h6, h⟩ := rcn.mp h
  obtain ⟨h7, h⟩ := rcn.mp h
  obtain ⟨h8, h9⟩ := rcn.mp h
  have h3 := zLq_ok zDq_ok h3
  have h4 := zLq_ok zGq_ok h4
  have h7 := zLq_ok zPq_ok h7
  have h8 := zAy_ok zXq_ok h8
  have h9 := zAy_ok zMq_ok h9
  obtain ⟨f1, f2, ⟨f3, f4, f5, f6, f7, f8⟩, f9⟩ := hF
  refine ⟨⟨f1, f2, ⟨?_, fun x hx => f4 x (h8 x hx), ?_, fun x hx => f6 x (h9 x hx), ?_, f8⟩, ?_⟩, (Nat.eq_of_beq_eq_true h1).symm, (Nat.eq_of_beq_eq_true h2).symm, h3.symm, (zLq_ok zXq_ok h5).symm, (zLq_ok zVq_ok h6).symm⟩
  · rw [← h7]; exact f3
  · rw [← h3]; exact f5
  · rw [← h3]; exact f7
  · rw [← h4]; exact f9
noncomputable def zCov (l l_q : List zNx) : Bool := l.all (fun q => l_q.any (zSub q))
theorem zRch_sub {W : List rGr} {T : List rIT} {i0 : List Nat} {m : Nat} {S : Nat → zSpc} {l0 l0_q : List zNx} {la la_q : Nat → List zNx} {nA : Nat → Nat} {a : List Int} {g : rHp} (h0 : zCov l0 l0_q = true) (ha : ∀ j, zCov (la j) (la_q j) = true) : ∀ {k i : Nat} {vs : List Int} {g1 : rHp}, zRch W T i0 m S l0 la nA a g k i vs g1 → zRch W T i0 m S l0_q la_q nA a g k i vs g1
  | 0, i, vs, g1, h => by
    obtain ⟨q, hq, e1, e2, ρ, γ, hF, e3, e4⟩ := h
    obtain ⟨P, hP, hs⟩ := List.any_eq_true.mp (List.all_eq_true.mp h0 q hq)
    obtain ⟨f1, f2, f3, f4, f5, f6⟩ := zSub_ok hs hF
    exact ⟨P, hP, f2.trans e1, f3.trans e2, ρ, γ, f1, by rw [f5]; exact e3, by rw [f4]; exact e4⟩
  | k + 1, i, vs, g1, h => by
    obtain ⟨j, us, g0, h1, q, hq, e1, e2, ρ, γ, ⟨e5, e6, hF⟩, e3, e4⟩ := h
    obtain ⟨P, hP, hs⟩ := List.any_eq_true.mp (List.all_eq_true.mp (ha j) q hq)
    obtain ⟨f1, f2, f3, f4, f5, f6⟩ := zSub_ok hs hF
    exact ⟨j, us, g0, zRch_sub h0 ha h1, P, hP, f2.trans e1, f3.trans e2, ρ, γ, ⟨e5, e6, f1⟩, by rw [f5]; exact e3, by rw [f4]; exact e4⟩
theorem zSem_sub {W : List rGr} {T : List rIT} {i0 : List Nat} {m : Nat} {S : Nat → zSpc} {l0 l0_q : List zNx} {la la_q : Nat → List zNx} {nA : Nat → Nat} {a : List Int} {g g_q : rHp} {o : Nat} {v : Int} (h0 : zCov l0 l0_q = true) (ha : ∀ j, zCov (la j) (la_q j) = true) (h : zSem W T i0 m S l0 la nA a g o v g_q) : zSem W T i0 m S l0_q la_q nA a g o v g_q := by
  rcases h with ⟨q, hq, e1, e2, ρ, γ, hF, e3, e4⟩ | ⟨k, j, us, g1, h1, q, hq, e1, e2, ρ, γ, ⟨e5, e6, hF⟩, e3, e4⟩
  · obtain ⟨P, hP, hs⟩ := List.any_eq_true.mp (List.all_eq_true.mp h0 q hq)
    obtain ⟨f1, f2, f3, f4, f5, f6⟩ := zSub_ok hs hF
    exact Or.inl ⟨P, hP, f2.trans e1, f3.trans e2, ρ, γ, f1, by rw [f6]; exact e3, by rw [f4]; exact e4⟩
  · obtain ⟨P, hP, hs⟩ := List.any_eq_true.mp (List.all_eq_true.mp (ha j) q hq)
    obtain ⟨f1, f2, f3, f4, f5, f6⟩ := zSub_ok hs hF
    exact Or.inr ⟨k, j, us, g1, zRch_sub h0 ha h1, P, hP, f2.trans e1, f3.trans e2, ρ, γ, ⟨e5, e6, f1⟩, by rw [f6]; exact e3, by rw [f4]; exact e4⟩
abbrev zAn : Type := List (Nat × rS × rX) × List rHn × List (Nat × Nat × Int) × List Nat
noncomputable def zRun (fuel : Nat) (mx : List Nat) (W : List rGr) (T : List rIT) (JL : List rI) (I : rI) (Bd : aBd) (a : zAn) (n : Nat) (r0 : Option rX) (pc : Nat) (σ : rS) (l : List zNx) : Bool := match zGo false mx W T I (JL.take n) (Bd, a.2) a.1 r0 fuel pc σ [] with
  | some l1 => zCov l1 l
  | none => false
/-- the case n is checked: its runs are those of the tables -/
noncomputable def zCk (fuel : Nat) (mx : List Nat) (W : List rGr) (T : List rIT) (JL : List rI) (an : List zAn) (bds : List aBd) (n : Nat) (l0 : List zNx) (las : List (List zNx)) : Bool := match JL[n]?, an[n]? with
  | some I, some a => (match bds[I.1]? with
    | some Bd => zRun fuel mx W T JL I Bd a n none 0 (rEnt I) l0 && Nat.ble (I.2.2.1.2.2.2.1.map rcat).sum (mx.getD I.1 0) && (List.range a.1.length).all (fun i => match a.1[i]? with
      | some p => zRun fuel mx W T JL I Bd a n (some p.2.2) p.1 p.2.1 (las.getD i []) && Nat.ble I.2.2.1.1.length p.2.1.1.length && rWx p.2.1.1.length p.2.2 && Nat.beq p.2.1.2.2.2.2.1.length 1
      | none => false)
    | none => false)
  | _, _ => false
noncomputable def zNA (a : zAn) (i : Nat) : Nat := match a.1[i]? with
  | some p => p.2.1.1.length
  | none => 0
section ZAll
variable {D : va_G} {dA : Nat → ClassId} {cl : List vw_C} {tA : List (Nat × FieldType)} {tyf : Nat → Nat → FieldType} {B : Nat} {nw : List Cond} {nc : List (String × String)} {ao : List String} {W0 : List Cond} {l : Launch} {W : List rGr} {T : List rIT} {A : rA} {b : aSc} {xn : List String} {mth : List aMd} {mx : List Nat} {S : Nat → zSpc}
theorem zAllMt {bds : List aBd} {JL : List rI} {an : List zAn} {fuel : Nat} (hsg : ∀ (k : Nat) (d : aMd) (Bd : aBd), mth[k]? = some d → bds[k]? = some Bd → aSg cl tA tyf [] nw nc ao W0 mth mx xn d Bd ∧ plainFor d.1 = true ∧ mx.getD k 0 = d.2.2.1) (hcp : ∀ (n : Nat) (I : rI) (a : zAn) (d : aMd), JL[n]? = some I → an[n]? = some a → mth[I.1]? = some d → ∀ x ∈ a.2.2.2, xCpy d.1.cls W0 x) (hTab : xTab cl tA tyf W0) (hl0 : l.stackTraces = false) (hL : b.2.1 < 2147483648) (hKt : ∀ g ∈ W, 1000 ≤ g.1 → ∃ ty, (g.1, ty) ∈ tA) (hI : rInj W A)
    (hall : ∀ (n : Nat) (I : rI), JL[n]? = some I → ∀ d : aMd, mth[I.1]? = some d → rMt D dA cl tA B nw nc ao W0 l W T A b xn d.1 (aCw d) I)
    (hz : ∀ (n : Nat) (I : rI) (a : zAn), JL[n]? = some I → an[n]? = some a → (∀ x g o v g_q, S n x g o v g_q) ∨ ∃ (l0 : List zNx) (las : List (List zNx)), zCk fuel mx W T JL an bds n l0 las = true ∧ ∀ x g o v g_q, zSem W T I.2.2.2.1 I.2.2.1.1.length S l0 (fun i => las.getD i []) (zNA a) x g o v g_q → S n x g o v g_q) (hlen : JL.length ≤ an.length) :
    ∀ (n : Nat) (I : rI), JL[n]? = some I → ∀ d : aMd, mth[I.1]? = some d → zMt D dA cl tA B nw nc ao W0 l W T A b xn d.1 (aCw d) (S n) I := by
  intro n
  induction n using Nat.strongRecOn with
  | ind n ih =>
    intro I hI2 d hd
    have hn := (List.getElem?_eq_some_iff.mp hI2).1
    have hna : n < an.length := by omega
    obtain ⟨a, ha⟩ : ∃ a, an[n]? = some a := ⟨_, List.getElem?_eq_getElem hna⟩
    rcases hz n I a hI2 ha with h0 | ⟨l0, las, h1, h2⟩
    · exact zMt_triv h0 (hall n I hI2 d hd)
    · unfold zCk at h1
      rw [hI2, ha] at h1
      dsimp only at h1
      split at h1
      · rename_i Bd hBd
        simp only [Bool.and_eq_true] at h1
        obtain ⟨⟨c1, c2⟩, c3⟩ := h1
        obtain ⟨g1, g2, g3⟩ := hsg _ d Bd hd hBd
        unfold zRun at c1
        split at c1
        · rename_i l1 hl1
          refine zMt_of (Bd := (Bd, a.2)) (ann := a.1) (l0 := l1) (la := fun i => match a.1[i]? with | some p => ((zGo false mx W T I (JL.take n) (Bd, a.2) a.1 (some p.2.2) fuel p.1 p.2.1 []).getD []) | none => []) (nA := zNA a) g1 (hcp n I a d hI2 ha hd) g2 hTab hl0 hL hKt hI (J := JL.take n) (S := S) (fun k I2 hk d2 hd2 => ?_) (fun x g o v g_q h => h2 x g o v g_q (zSem_sub c1 (fun j => ?_) h)) (fun i p hp => ?_) hl1 (by rw [← g3]; exact Nat.le_of_ble_eq_true c2)
          · have hlt : k < n := by
              have := (List.getElem?_eq_some_iff.mp hk).1
              simp at this
              omega
            rw [List.getElem?_take_of_lt hlt] at hk
            exact ih k hlt I2 hk d2 hd2
          · cases hj : a.1[j]? with
            | none => rfl
            | some p =>
              have h3 := List.all_eq_true.mp c3 j (List.mem_range.mpr (List.getElem?_eq_some_iff.mp hj).1)
              rw [hj] at h3
              simp only [Bool.and_eq_true] at h3
              have h4 := h3.1.1.1
              unfold zRun at h4
              split at h4
              · rename_i l2 hl2
                show zCov ((zGo false mx W T I (JL.take n) (Bd, a.2) a.1 (some p.2.2) fuel p.1 p.2.1 []).getD []) _ = true
                rw [hl2]
                exact h4
              · cases h4
          · have h3 := List.all_eq_true.mp c3 i (List.mem_range.mpr (List.getElem?_eq_some_iff.mp hp).1)
            rw [hp] at h3
            simp only [Bool.and_eq_true] at h3
            obtain ⟨⟨⟨h4, h5⟩, h6⟩, h7⟩ := h3
            unfold zRun at h4
            split at h4
            · rename_i l2 hl2
              refine ⟨?_, by unfold zNA; rw [hp], Nat.le_of_ble_eq_true h5, h6, Nat.eq_of_beq_eq_true h7⟩
              rw [hp]
              show _ = some ((zGo false mx W T I (JL.take n) (Bd, a.2) a.1 (some p.2.2) fuel p.1 p.2.1 []).getD [])
              rw [hl2]
              rfl
            · cases h4
        · cases c1
      · cases h1
end ZAll
