/-! ===== all cases ===== -/
noncomputable def cpW : List Cond := [Cond.methodLink "RoundReckoner$Answers" 22 arraycopyName, Cond.methodLink "RoundReckoner$Clauses" 70 arraycopyName, Cond.methodLink "RoundReckoner$Engine" 74 arraycopyName, Cond.methodLink "RoundReckoner$Rows" 57 arraycopyName, Cond.native arraycopyName, Cond.static arraycopyName, Cond.initialized "java/lang/System"]
set_option maxRecDepth 100000 in
theorem cpW_ok : ∀ w ∈ cpW, w ∈ tW0 := inAt_ok (is := [(5, 31), (3, 192), (4, 201), (5, 54), (3, 194), (3, 193), (1, 21)]) (by decide +kernel)
noncomputable def cpL : List (String × Nat) := [("RoundReckoner$Answers", 22), ("RoundReckoner$Clauses", 70), ("RoundReckoner$Engine", 74), ("RoundReckoner$Rows", 57)]
theorem cpX : ∀ q ∈ cpL, xCpy q.1 tW0 q.2 := by
  intro q hq
  simp only [cpL, List.mem_cons, List.not_mem_nil, or_false] at hq
  rcases hq with rfl | rfl | rfl | rfl
  all_goals exact ⟨cpW_ok _ (by simp [cpW]), cpW_ok _ (by simp [cpW]), cpW_ok _ (by simp [cpW]), cpW_ok _ (by simp [cpW])⟩
noncomputable def cpOk (n : Nat) : Bool := match uJL[n]?, uAn[n]? with
  | some I, some a => a.2.2.2.all (fun x => match tMth[I.1]? with
    | some d => cpL.any (fun z => decide (d.1.cls = z.1) && Nat.beq x z.2)
    | none => true)
  | _, _ => true
set_option maxRecDepth 100000 in
theorem uJL_len : uJL.length = 280 := by decide +kernel
set_option maxRecDepth 100000 in
theorem cpOk_ok : (List.range 280).all cpOk = true := by decide +kernel
theorem uCp : ∀ (n : Nat) (I : rI) (a : List (Nat × rS × rX) × List rHn × List (Nat × Nat × Int) × List Nat) (d : aMd), uJL[n]? = some I → uAn[n]? = some a → tMth[I.1]? = some d → ∀ x ∈ a.2.2.2, xCpy d.1.cls tW0 x := by
  intro n I a d hI ha hd x hx
  have hlt := (List.getElem?_eq_some_iff.mp hI).1
  rw [uJL_len] at hlt
  have h1 := List.all_eq_true.mp cpOk_ok n (List.mem_range.mpr hlt)
  unfold cpOk at h1
  rw [hI, ha] at h1
  have h2 := List.all_eq_true.mp h1 x hx
  rw [hd] at h2
  obtain ⟨z, hz, h3⟩ := List.any_eq_true.mp h2
  simp only [Bool.and_eq_true, decide_eq_true_eq] at h3
  have := cpX z hz
  rw [h3.1, Nat.eq_of_beq_eq_true h3.2]
  exact this
section S60
variable {D : va_G} {dA : Nat → ClassId} {B : Nat} {l : Launch} {A : rA} {b : aSc}
/-- the case of the number n, where all ahead of it are so -/
theorem uOne (hl0 : l.stackTraces = false) (hL : b.2.1 < 2147483648) (hI : rInj uW A) {n : Nat} (h1 : rCkn 3000 uMx uW uT uJL uAn uBds n = true) (ih : ∀ m, m < n → ∀ (I : rI), uJL[m]? = some I → ∀ d : aMd, tMth[I.1]? = some d → rMt D dA vwCl tTA B tNw tNc tAo tW0 l uW uT A b tXn d.1 (aCw d) I) :
    ∀ (I : rI), uJL[n]? = some I → ∀ d : aMd, tMth[I.1]? = some d → rMt D dA vwCl tTA B tNw tNc tAo tW0 l uW uT A b tXn d.1 (aCw d) I := by
  intro I hI2 d hd
  unfold rCkn at h1
  rw [hI2] at h1
  split at h1
  · rename_i I_q a hI_q ha
    cases hI_q
    split at h1
    · rename_i Bd hBd
      simp only [Bool.and_eq_true] at h1
      obtain ⟨g1, g2, g3⟩ := tSg tKt_nil _ d Bd hd hBd
      refine rMt_of (Bd := (Bd, a.2)) g1 (uCp n I a d hI2 ha hd) g2 tTab hl0 hL uKt hI (fun k I2 hk d2 hd2 => ?_) h1.1 (by rw [← g3]; exact Nat.le_of_ble_eq_true h1.2)
      have hlt : k < n := by
        have := (List.getElem?_eq_some_iff.mp hk).1
        simp at this
        omega
      rw [List.getElem?_take_of_lt hlt] at hk
      exact ih k hlt I2 hk d2 hd2
    · cases h1
  · cases h1
end S60
