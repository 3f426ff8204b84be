/-! ===== all cases, by tables or by hand ===== -/
theorem zMt_rMt {D : va_G} {dA : Nat → ClassId} {cl : List vw_C} {tA : List (Nat × FieldType)} {B : Nat} {nw : List Cond} {nc : List (String × String)} {ao : List String} {W0 : List Cond} {l : Launch} {W : List rGr} {T : List rIT} {A : rA} {b : aSc} {xn : List String} {y : MethodName} {cw : Cond} {Sn : zSpc} {I : rI} (h : zMt D dA cl tA B nw nc ao W0 l W T A b xn y cw Sn I) : rMt D dA cl tA B nw nc ao W0 l W T A b xn y cw I := by
  intro ρ γ av h0 hA
  refine yMet_mono ?_ ?_ (h ρ γ av h0 hA)
  · rintro v h1 ⟨E, e1, ρ_q, γ_q, e2, e3, e4, _⟩
    exact ⟨E, e1, ρ_q, γ_q, e2, e3, e4⟩
  · rintro X h1 ⟨q, e1, e0, ρ_q, γ_q, e2, e3, e4, _⟩
    exact ⟨q, e1, e0, ρ_q, γ_q, e2, e3, e4⟩
section ZAll3
variable {D : va_G} {dA : Nat → ClassId} {cl : List vw_C} {tA : List (Nat × FieldType)} {tyf : Nat → Nat → FieldType} {B : Nat} {nw : List Cond} {nc : List (String × String)} {ao : List String} {W0 : List Cond} {l : Launch} {W : List rGr} {T : List rIT} {A : rA} {b : aSc} {xn : List String} {mth : List aMd} {mx : List Nat} {S : Nat → zSpc}
theorem zAllMt3 {bds : List aBd} {JL : List rI} {an : List zAn} {fuel : Nat} (hsg : ∀ (k : Nat) (d : aMd) (Bd : aBd), mth[k]? = some d → bds[k]? = some Bd → aSg cl tA tyf [] nw nc ao W0 mth mx xn d Bd ∧ plainFor d.1 = true ∧ mx.getD k 0 = d.2.2.1) (hbd : ∀ (n : Nat) (I : rI), JL[n]? = some I → ∃ Bd, bds[I.1]? = some Bd) (hcp : ∀ (n : Nat) (I : rI) (a : zAn) (d : aMd), JL[n]? = some I → an[n]? = some a → mth[I.1]? = some d → ∀ x ∈ a.2.2.2, xCpy d.1.cls W0 x) (hTab : xTab cl tA tyf W0) (hl0 : l.stackTraces = false) (hL : b.2.1 < 2147483648) (hKt : ∀ g ∈ W, 1000 ≤ g.1 → ∃ ty, (g.1, ty) ∈ tA) (hI : rInj W A)
    (hlen : JL.length ≤ an.length)
    (hz : ∀ (n : Nat) (I : rI) (a : zAn), JL[n]? = some I → an[n]? = some a → (∃ (l0 : List zNx) (las : List (List zNx)), zOk fuel mx W T JL an bds n l0 las ∧ ∀ x g o v g_q, zSem W T I.2.2.2.1 I.2.2.1.1.length S l0 (fun i => las.getD i []) (zNA a) x g o v g_q → S n x g o v g_q) ∨ ((∀ m, m < n → ∀ (I : rI), JL[m]? = some I → ∀ d : aMd, mth[I.1]? = some d → rMt D dA cl tA B nw nc ao W0 l W T A b xn d.1 (aCw d) I) → ∀ d : aMd, mth[I.1]? = some d → zMt D dA cl tA B nw nc ao W0 l W T A b xn d.1 (aCw d) (S n) I)) :
    ∀ (n : Nat) (I : rI), JL[n]? = some I → ∀ d : aMd, mth[I.1]? = some d → zMt D dA cl tA B nw nc ao W0 l W T A b xn d.1 (aCw d) (S n) I := by
  intro n
  induction n using Nat.strongRecOn with
  | ind n ih =>
    intro I hI2 d hd
    have hn := (List.getElem?_eq_some_iff.mp hI2).1
    have hna : n < an.length := by omega
    obtain ⟨a, ha⟩ : ∃ a, an[n]? = some a := ⟨_, List.getElem?_eq_getElem hna⟩
    rcases hz n I a hI2 ha with ⟨l0, las, h1, h2⟩ | h0
    · obtain ⟨Bd, hBd⟩ := hbd n I hI2
      obtain ⟨c1, c2, c3⟩ := h1 I a Bd hI2 ha hBd
      obtain ⟨g1, g2, g3⟩ := hsg _ d Bd hd hBd
      unfold zRun at c1
      split at c1
      · rename_i l1 hl1
        refine zMt_of (Bd := (Bd, a.2)) (ann := a.1) (l0 := l1) (la := fun i => match a.1[i]? with | some p => ((zGo false mx W T I (JL.take n) (Bd, a.2) a.1 (some p.2.2) fuel p.1 p.2.1 []).getD []) | none => []) (nA := zNA a) g1 (hcp n I a d hI2 ha hd) g2 hTab hl0 hL hKt hI (J := JL.take n) (S := S) (fun k I2 hk d2 hd2 => ?_) (fun x g o v g_q h => h2 x g o v g_q (zSem_sub c1 (fun j => ?_) h)) (fun i p hp => ?_) hl1 (by rw [← g3]; exact c2)
        · have hlt : k < n := by
            have := (List.getElem?_eq_some_iff.mp hk).1
            simp at this
            omega
          rw [List.getElem?_take_of_lt hlt] at hk
          exact ih k hlt I2 hk d2 hd2
        · cases hj : a.1[j]? with
          | none => rfl
          | some p =>
            have h4 := (c3 j p hj).1
            unfold zRun at h4
            split at h4
            · rename_i l2 hl2
              show zCov ((zGo false mx W T I (JL.take n) (Bd, a.2) a.1 (some p.2.2) fuel p.1 p.2.1 []).getD []) _ = true
              rw [hl2]
              exact h4
            · cases h4
        · obtain ⟨h4, h5, h6, h7⟩ := c3 i p hp
          unfold zRun at h4
          split at h4
          · rename_i l2 hl2
            refine ⟨?_, by unfold zNA; rw [hp], h5, h6, h7⟩
            rw [hp]
            show _ = some ((zGo false mx W T I (JL.take n) (Bd, a.2) a.1 (some p.2.2) fuel p.1 p.2.1 []).getD [])
            rw [hl2]
            rfl
          · cases h4
      · cases c1
    · exact h0 (fun m hm I2 h3 d2 h4 => zMt_rMt (ih m hm I2 h3 d2 h4)) d hd
end ZAll3
