/-! ===== the checker: the cases of all methods ===== -/
def aArgs : Nat → List aV → List (Nat × aV)
  | _, [] => []
  | i, v :: vs => (i, v) :: aArgs (if acat v = 2 then i + 2 else i + 1) vs
def aEn (I : aI) : aS := (I.2.2.1, I.2.2.2.1, aArgs 0 I.2.2.2.2.1, [], I.2.2.2.2.2.1, 0, 0)
theorem aArgs_ge : ∀ {vs : List Value} {i : Nat}, ∀ q ∈ lv_args i vs, i ≤ q.1
  | [], _, _, hq => by cases hq
  | v :: vs, i, q, hq => by
    simp only [lv_args] at hq
    rcases List.mem_cons.mp hq with rfl | hq
    · exact Nat.le_refl _
    · have := aArgs_ge q hq
      split at this <;> omega
theorem aArgs_ok {ρ : Nat → Int} {α τ : Nat → Option Nat} {b : aSc} : ∀ {A : List aV} {av : List Value} {i : Nat}, aStk ρ α τ b A av → ∀ q ∈ aArgs i A, ∃ x, xget (lv_args i av) q.1 = some x ∧ aM ρ α τ b q.2 x ∧ i ≤ q.1
  | [], _, _, _, q, hq => by cases hq
  | v :: A, x :: av, i, h, q, hq => by
    simp only [aArgs] at hq
    have hc := acat_ok h.1
    rcases List.mem_cons.mp hq with rfl | hq
    · refine ⟨x, ?_, h.1, Nat.le_refl _⟩
      simp only [lv_args, xget]
      rw [List.find?_cons_of_pos (by simp)]
      rfl
    · obtain ⟨y, h1, h2, h3⟩ := aArgs_ok h.2 q hq
      have h4 : i < q.1 := by split at h3 <;> omega
      refine ⟨y, ?_, h2, Nat.le_of_lt h4⟩
      simp only [lv_args]
      rw [xget_cons_ne (by omega), hc]
      exact h1
  | _ :: _, [], _, h, _, _ => h.elim
theorem aSl_len {ρ : Nat → Int} {α τ : Nat → Option Nat} {b : aSc} : ∀ {A : List aV} {av : List Value}, aStk ρ α τ b A av → (lg_sl av).length = (A.map acat).sum
  | [], [], _ => rfl
  | v :: A, x :: av, h => by
    have hc := acat_ok h.1
    have hi := aSl_len h.2
    unfold lg_sl at hi ⊢
    simp only [List.flatMap_cons, List.length_append, List.map_cons, List.sum_cons, hi]
    rw [hc]
    unfold acat
    split <;> simp
  | [], _ :: _, h => h.elim
  | _ :: _, [], h => h.elim
/-- what a program decides of a method's tables -/
def aSg (cl : List vw_C) (tA : List (Nat × FieldType)) (tyf : Nat → Nat → FieldType) (kd : List aKd) (nw : List Cond) (nc : List (String × String)) (ao : List String) (W0 : List Cond) (mth : List aMd) (mx : List Nat) (xn : List String) (d : aMd) (Bd : aBd) : Prop :=
  Bd.1 = d.2.2.1 ∧ (∀ q ∈ Bd.2.1, decode d.2.1 q.1 = .ok (q.2.1, q.2.2)) ∧
  ((∀ q ∈ Bd.2.2.1.1, ∃ r, cl[q.2.1]? = some r ∧ q.2.2.1 < r.2.2 ∧ Cond.fieldLink d.1.cls q.1 (r.2.1 q.2.2.1).1 (r.2.1 q.2.2.1).2.1 (r.2.1 q.2.2.1).2.2.1 ∈ W0 ∧ (q.2.2.2 = 0 → (r.2.1 q.2.2.1).2.2.2 = false) ∧ (q.2.2.2 = 1 → (r.2.1 q.2.2.1).2.2.2 = true ∧ (r.2.1 q.2.2.1).1 = d.1.cls)) ∧
   (∀ ci f, aTy (aTc Bd.2.2.1.2.1 ci f) (tyf ci f)) ∧
   (∀ q ∈ Bd.2.2.1.2.2.1, ∃ r, cl[q.2.1]? = some r ∧ r.2.2 = q.2.2 ∧ Cond.classLink d.1.cls q.1 r.1 ∈ W0 ∧ Cond.instantiable r.1 r.2.2 ∈ W0 ∧ Cond.initialized r.1 ∈ W0) ∧
   (∀ q ∈ Bd.2.2.1.2.2.2.1, ∃ E, (q.2, FieldType.object E) ∈ tA ∧ Cond.classLink d.1.cls q.1 E ∈ W0 ∧ E ∈ ao) ∧
   (tA.take 4 = [(1000, .int), (1001, .long), (1002, .byte), (1003, .boolean)] ∧ Cond.arrayClass .int ∈ W0 ∧ Cond.arrayClass .long ∈ W0 ∧ Cond.arrayClass .byte ∈ W0 ∧ Cond.arrayClass .boolean ∈ W0 ∧ ∀ t ty, (t, ty) ∈ tA → 2000 ≤ t → ∃ r, cl[t - 2000]? = some r ∧ ty = .object r.1) ∧
   (∀ q ∈ Bd.2.2.1.2.2.2.2.2.2.1, ∃ z : Int32, Cond.constant d.1.cls q.1 z ∈ W0 ∧ z.toInt = q.2) ∧ (∀ q ∈ Bd.2.2.1.2.2.2.2.2.2.2.1, ∃ z : Int64, Cond.constantLong d.1.cls q.1 z ∈ W0 ∧ z.toInt = q.2) ∧
   (Bd.2.2.1.2.2.2.2.2.2.2.2 = true → d.1.name = "<init>")) ∧
  aKt kd tA ∧ (∀ q ∈ Bd.2.2.2.1, aIg d.1.cls W0 cl nw W0 mth mx q) ∧
  (∀ q ∈ Bd.2.2.2.2.1, ∃ X, xn[q.2.1]? = some X ∧ Bundle.fit X = true ∧ Cond.classLink d.1.cls q.2.2.1 X ∈ W0 ∧ Cond.initialized X ∈ W0 ∧ (∀ w ∈ vx_at0 d.1.cls q.2.2.2 X aChain, w ∈ W0 ∨ w ∈ nw) ∧ ∀ w ∈ Cond.classLink d.1.cls q.2.2.1 X :: Cond.initialized X :: vx_at0 d.1.cls q.2.2.2 X aChain, vx_ot w = true) ∧
  (d.2.2.2.2 = Bd.2.2.2.2.2.1.map (fun q => (q.1, q.2.1, q.2.2.1, q.2.2.2.1)) ∧ ∀ q ∈ Bd.2.2.2.2.2.1, q.2.2.2.1 ≠ 0 ∧ ∃ nm, xn[q.2.2.2.2]? = some nm ∧ Cond.classLink d.1.cls q.2.2.2.1 nm ∈ W0 ∧ Cond.castable nm nm ∈ nw ∧ ∀ (x : Nat) (X : String), xn[x]? = some X → x ≠ q.2.2.2.2 → (X, nm) ∈ nc) ∧
  aRc Bd.2.2.2.2.2.2 d.2.2.2.1
theorem goodIn_mono {big big_q ws : List Cond} (hs : ∀ w ∈ big, w ∈ big_q) (h : GoodIn big ws) : GoodIn big_q ws := fun w hw => ⟨hs w (h w hw).1, (h w hw).2⟩
theorem aIg_mono {own : String} {T T_q : List Cond} {cl : List vw_C} {nw W0 : List Cond} {mth : List aMd} {mx : List Nat} {q : aIv} (hs : ∀ w ∈ T, w ∈ T_q) (h : aIg own T cl nw W0 mth mx q) : aIg own T_q cl nw W0 mth mx q := by
  unfold aIg at h ⊢
  split at h
  · rename_i h4
    rw [if_pos h4]
    exact ⟨hs _ h.1, hs _ h.2.1, hs _ h.2.2⟩
  · rename_i h4
    rw [if_neg h4]
    obtain ⟨d, h1, h2, h3, h5, h6⟩ := h
    refine ⟨d, h1, h2, goodIn_mono hs h3, hs _ h5, ?_⟩
    split at h6
    · exact ⟨h6.1, hs _ h6.2.1, hs _ h6.2.2.1, hs _ h6.2.2.2.1, h6.2.2.2.2⟩
    · exact ⟨h6.1, hs _ h6.2.1, hs _ h6.2.2.1, h6.2.2.2⟩
    · exact ⟨h6.1, hs _ h6.2.1, hs _ h6.2.2.1, h6.2.2.2⟩
    · exact ⟨h6.1, h6.2.1, hs _ h6.2.2.1, h6.2.2.2⟩
    · exact ⟨h6.1, hs _ h6.2.1, hs _ h6.2.2.1, h6.2.2.2⟩
    · exact ⟨h6.1, h6.2.1, hs _ h6.2.2.1, h6.2.2.2⟩
    · exact h6.elim
section XZ
variable {D : va_G} {dA : Nat → ClassId} {cl : List vw_C} {tA : List (Nat × FieldType)} {tyf : Nat → Nat → FieldType} {B : Nat} {nw : List Cond} {nc : List (String × String)} {ao : List String} {W0 : List Cond} {l : Launch} {kd : List aKd} {b : aSc} {xn : List String} {mth : List aMd} {mx : List Nat} {J : List aI} {d : aMd} {I : aI} {Bd : aBd} {ann : List (Nat × aS × aRk)}
theorem aSg_bg {Ts : List Cond} (hs : ∀ w ∈ W0, w ∈ Ts) (h : aSg cl tA tyf kd nw nc ao W0 mth mx xn d Bd) (hL : b.2.1 < 2147483648) {s : State} {meth : Method} {c : Code} (hE : xEnv D dA cl tA B nw nc ao s) (hn : meth.name = d.1.name) (hr : meth.sig.returnType = d.2.2.2.1) (hx : c.exceptionTable.toList = tableOf d.2.2.2.2) :
    aBg d.1.cls Ts cl tA tyf kd nw nc W0 mth mx xn b meth s c d.2.1 d.2.2.1 Bd := by
  obtain ⟨h1, h2, ⟨f1, f2, f3, f4, f5, f6, f7, f8⟩, h4, h5, h6, h7, h8⟩ := h
  refine ⟨h1, h2, ⟨fun q hq => ?_, f2, fun q hq => ?_, fun q hq => ?_, ⟨f5.1, hs _ f5.2.1, hs _ f5.2.2.1, hs _ f5.2.2.2.1, hs _ f5.2.2.2.2.1, f5.2.2.2.2.2⟩, fun q hq => ?_, fun q hq => ?_, fun q => by rw [hn]; exact f8 q, hL⟩, h4, fun q hq => aIg_mono hs (h5 q hq), fun q hq => ?_, ⟨by rw [hx, h7.1], fun q hq => ?_⟩, by rw [hr]; exact h8⟩
  · obtain ⟨r, g1, g2, g3, g4⟩ := f1 q hq
    exact ⟨r, g1, g2, hs _ g3, g4⟩
  · obtain ⟨r, g1, g2, g3, g4, g5⟩ := f3 q hq
    exact ⟨r, g1, g2, hs _ g3, hs _ g4, hs _ g5⟩
  · obtain ⟨E, g1, g2, g3⟩ := f4 q hq
    exact ⟨E, g1, hs _ g2, hE.2.2.2.2.1 E g3⟩
  · obtain ⟨z, g1, g2⟩ := f6 q hq
    exact ⟨z, hs _ g1, g2⟩
  · obtain ⟨z, g1, g2⟩ := f7 q hq
    exact ⟨z, hs _ g1, g2⟩
  · obtain ⟨X, g1, g2, g3, g4, g5, g6⟩ := h6 q hq
    exact ⟨X, g1, g2, hs _ g3, hs _ g4, fun w hw => (g5 w hw).imp (hs w) id, g6⟩
  · obtain ⟨g1, nm, g2, g3, g4, g5⟩ := h7.2 q hq
    exact ⟨g1, nm, g2, hs _ g3, g4, g5⟩
theorem aMt_of (hsg : aSg cl tA tyf kd nw nc ao W0 mth mx xn d Bd) (hy : plainFor d.1 = true) (hTab : xTab cl tA tyf W0) (hl0 : l.stackTraces = false) (hL : b.2.1 < 2147483648) (hJ : ∀ (n : Nat) (I : aI), J[n]? = some I → ∀ d : aMd, mth[I.1]? = some d → aMt D dA cl tA B nw nc ao W0 l kd b xn d.1 (aCw d) I)
    {fuel : Nat} (hk : aOkB fuel false mx kd I J Bd ann (aEn I) = true) (ha : (I.2.2.2.2.1.map acat).sum ≤ d.2.2.1) : aMt D dA cl tA B nw nc ao W0 l kd b xn d.1 (aCw d) I := by
  intro P ρ α τ av h hA
  have hA_q : aSx kd B b P h ρ α τ (aEn I) (lv_args 0 av) [] h := ⟨⟨hA.1.1, (fun q hq => by
    obtain ⟨x, h1, h2, -⟩ := aArgs_ok hA.1.2.2.1 q hq
    exact ⟨x, h1, h2⟩), trivial, hA.1.2.2.2⟩, hA.2⟩
  have hav : (lg_sl av).length ≤ d.2.2.1 := by
    rw [aSl_len hA.1.2.2.1]
    exact ha
  have hT : ∀ cw, xTab cl tA tyf (cw :: W0) := fun cw => ⟨fun ci r hr => by
    obtain ⟨g1, g2, g3⟩ := hTab.1 ci r hr
    exact ⟨g1, fun w hw => List.mem_cons_of_mem _ (g2 w hw), g3⟩, hTab.2⟩
  unfold aCw
  split
  · rename_i hh
    refine xMet_of (tyf := tyf) hy (hT _) hav (fun p e s m args below meth c C hE hlocks hr hn hnt => ?_)
    have hx : c.exceptionTable.toList = tableOf d.2.2.2.2 := by
      rw [hh]
      cases hc : c.exceptionTable.toList with
      | nil => rfl
      | cons z zs => exact (hnt z (by rw [hc]; exact List.mem_cons_self)).elim
    exact aOkB_ok (xs := fun _ => 0) C hE hlocks hl0 hJ (aSg_bg (fun w hw => List.mem_cons_of_mem _ hw) hsg hL hE hn hr hx) (fun q => by cases q) hk hA_q (Nat.le_refl _) (Nat.le_refl _)
  · rename_i hh
    refine xMet_ofH (tyf := tyf) hy (hT _) hav (fun p e s m args below meth c C hE hlocks hr hn hx => ?_)
    exact aOkB_ok (xs := fun _ => 0) C hE hlocks hl0 hJ (aSg_bg (fun w hw => List.mem_cons_of_mem _ hw) hsg hL hE hn hr hx) (fun q => by cases q) hk hA_q (Nat.le_refl _) (Nat.le_refl _)
/-- the case n is checked, with those ahead of it -/
def aCkn (fuel : Nat) (mx : List Nat) (kd : List aKd) (JL : List aI) (an : List (List (Nat × aS × aRk))) (bds : List aBd) (n : Nat) : Bool := match JL[n]?, an[n]? with
  | some I, some a => (match bds[I.1]? with
    | some Bd => aOkB fuel false mx kd I (JL.take n) Bd a (aEn I) && Nat.ble (I.2.2.2.2.1.map acat).sum (mx.getD I.1 0)
    | none => false)
  | _, _ => false
theorem aAllMt {bds : List aBd} {JL : List aI} {an : List (List (Nat × aS × aRk))} {fuel : Nat} (hsg : ∀ (k : Nat) (d : aMd) (Bd : aBd), mth[k]? = some d → bds[k]? = some Bd → aSg cl tA tyf kd nw nc ao W0 mth mx xn d Bd ∧ plainFor d.1 = true ∧ mx.getD k 0 = d.2.2.1) (hTab : xTab cl tA tyf W0) (hl0 : l.stackTraces = false) (hL : b.2.1 < 2147483648)
    (hck : ∀ n, n < JL.length → aCkn fuel mx kd JL an bds n = true) : ∀ (n : Nat) (I : aI), JL[n]? = some I → ∀ d : aMd, mth[I.1]? = some d → aMt D dA cl tA B nw nc ao W0 l kd b xn d.1 (aCw d) I := by
  intro n
  induction n using Nat.strongRecOn with
  | ind n ih =>
    intro I hI d hd
    have h1 := hck n (List.getElem?_eq_some_iff.mp hI).1
    unfold aCkn at h1
    rw [hI] at h1
    split at h1
    · rename_i I_q a hI_q ha
      cases hI_q
      split at h1
      · rename_i Bd hBd
        simp only [Bool.and_eq_true] at h1
        obtain ⟨g1, g2, g3⟩ := hsg _ d Bd hd hBd
        refine aMt_of g1 g2 hTab hl0 hL (fun k I2 hk d2 hd2 => ?_) h1.1 (by rw [← g3]; exact Nat.le_of_ble_eq_true h1.2)
        have hlt : k < n := by
          have := (List.getElem?_eq_some_iff.mp hk).1
          simp at this
          omega
        rw [List.getElem?_take_of_lt hlt] at hk
        exact ih k hlt I2 hk d2 hd2
      · cases h1
    · cases h1
end XZ
