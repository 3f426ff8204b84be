section XEk
variable {p : Program} {l : Launch} {e : Env} {R0 : Room} {s : State} {m : MethodId} {args : Array Value} {below : List Frame} {meth : Method} {c : Code} {Q : State → Prop}
variable {cc : ByteArray} {nL : Nat} {Ts : List Cond} {own : String} {D : va_G} {dA : Nat → ClassId} {cl : List vw_C} {tA : List (Nat × FieldType)} {tyf : Nat → Nat → FieldType} {B : Nat}
variable {kd : List aKd} {b : aSc} {P : Nat → Prop} {h0 : xH} {ρ : Nat → Int} {α τ : Nat → Option Nat} {σ : aS} {pc len : Nat} {lv : List (Nat × Value)} {st : List Value} {h : xH} {i : Instr} {l1 : List (Nat × aS)}
variable {hI : xH} {own9 I : aI} {ρ0 : Nat → Int} {α0 τ0 : Nat → Option Nat} {xn : List String} {nw : List Cond} {nc : List (String × String)} {ao : List String} {rtc : Nat}
/-- the answer's type by its number; 5: none -/
def aRc (rtc : Nat) (ret : Option FieldType) : Prop := (rtc = 5 → ret = none) ∧ (rtc < 5 → ∃ ty, ret = some ty ∧ aTy rtc ty)
theorem aRt_ok (hA : aSx kd B b P hI ρ α τ σ lv st h) (hs : aSame own9.2.2.1.length own9.2.2.2.1 ρ0 ρ α0 α) (hb : aSub τ0 τ) (hr : aRt own9 σ = true) {v : Option Value} (hv : v.toList = st) : aQf kd B b P hI ρ0 α0 τ0 own9 v h := by
  unfold aRt at hr
  obtain ⟨W, hW, he⟩ := List.any_eq_true.mp hr
  have hA2 : aSx kd B b P hI ρ α τ (aNoL σ σ.2.2.2.1) [] st h := ⟨⟨hA.1.1, (fun q hq => by cases hq), hA.1.2.2.1, hA.1.2.2.2⟩, hA.2⟩
  obtain ⟨ρ_q, α_q, g1, g2, -, -⟩ := aEnd1_ok hA2 hs he
  exact ⟨W, hW, ρ_q, α_q, τ, g1, hb, by rw [hv]; exact g2⟩
theorem asR_ok (C : xCx p s m args c cc nL Ts own D dA cl tA tyf B) (hlocks : meth.locks = false) {ret : Option FieldType} (hr : meth.sig.returnType = ret) (hrc : aRc rtc ret) (hA : aSx kd B b P hI ρ α τ σ lv st h) (hs : aSame own9.2.2.1.length own9.2.2.2.1 ρ0 ρ α0 α) (hb : aSub τ0 τ) (hk : σ.2.2.2.2.2.1 ≤ (aIr own9).cells) (hn : σ.2.2.2.2.2.2 ≤ (aIr own9).slots) (hdg : decode cc pc = .ok (i, len)) (h1 : asR own9 rtc σ i len = some l1) : xSafe p l e (aIr own9) s m args below meth c nL D dA cl tA B (xEnd below args s D dA cl tA B (aQf kd B b P hI ρ0 α0 τ0 own9) (aXf kd B b P hI ρ0 α0 τ0 xn own9) (aIr own9).cells (aIr own9).slots) pc lv st h σ.2.2.2.2.2.1 σ.2.2.2.2.2.2 := by
  have one : ∀ {v : aV}, σ.2.2.2.1 = [v] → ∃ x, st = [x] ∧ aM ρ α τ b v x := by
    intro v hS
    have h3 := hA.1.2.2.1
    rw [hS] at h3
    obtain ⟨x, st_q, rfl, hx, h4⟩ := aStk_cons h3
    cases st_q with
    | nil => exact ⟨x, rfl, hx⟩
    | cons _ _ => exact h4.elim
  unfold asR at h1
  split at h1
  · split at h1
    · rename_i v hS
      split at h1
      · rename_i hc
        obtain ⟨rfl, c1, c2, c3⟩ := hc
        obtain ⟨x, rfl, hx⟩ := one hS
        obtain ⟨ty, e1, e2⟩ := hrc.2 (by omega)
        obtain ⟨n1, n2⟩ := aTok_ok hA.1.1 hx e2 c2
        have h0v : v.1 = 0 := by
          rcases c1 with rfl | rfl | rfl
          · simpa [aTok] using c2
          · simp only [aTok, Bool.and_eq_true, decide_eq_true_eq] at c2; exact c2.1
          · simp only [aTok, Bool.and_eq_true, decide_eq_true_eq] at c2; exact c2.1
        obtain ⟨z, rfl, hz⟩ := aM_int hx h0v
        exact xs_iret C hlocks (hr.trans e1) n1 hk hn (aRt_ok hA hs hb c3 rfl) hdg
      · cases h1
    · cases h1
  · split at h1
    · rename_i v hS
      split at h1
      · rename_i hc
        obtain ⟨rfl, c1, c2, c3⟩ := hc
        obtain ⟨x, rfl, hx⟩ := one hS
        obtain ⟨ty, e1, e2⟩ := hrc.2 (by omega)
        obtain ⟨z, rfl, hz⟩ := aM_lng hx c2
        have : ty = .long := e2.2.1 c1
        subst this
        exact xs_lret C hlocks (hr.trans e1) hk hn (aRt_ok hA hs hb c3 rfl) hdg
      · cases h1
    · cases h1
  · split at h1
    · rename_i v hS
      split at h1
      · rename_i hc
        obtain ⟨rfl, c1, c2, c3⟩ := hc
        obtain ⟨x, rfl, hx⟩ := one hS
        obtain ⟨ty, e1, e2⟩ := hrc.2 (by omega)
        subst c1
        have hv : x = .null ∨ ∃ a, x = .ref a := by
          have h2 : 1 < v.1 := by simpa [aTok] using c2
          have h3 := asort_ok hx
          unfold asort at h3
          rw [if_neg (by omega), if_neg (by omega)] at h3
          cases x <;> simp only [xsort] at h3 <;> first | (exact absurd h3 (by decide)) | exact Or.inl rfl | exact Or.inr ⟨_, rfl⟩
        exact xs_aret C hlocks (hr.trans e1) (e2.2.2.2.2 rfl) hv hk hn (aRt_ok hA hs hb c3 rfl) hdg
      · cases h1
    · cases h1
  · split at h1
    · rename_i hS
      split at h1
      · rename_i hc
        obtain ⟨rfl, c1, c3⟩ := hc
        have h3 := hA.1.2.2.1
        rw [hS] at h3
        cases st with
        | nil => exact xs_vret C hlocks (hr.trans (hrc.1 c1)) hk hn (aRt_ok hA hs hb c3 rfl) hdg
        | cons _ _ => exact h3.elim
      · cases h1
    · cases h1
  · cases h1
/-- an end by a throw -/
theorem aXo_ok {x : Nat} {X : String} {k_q n_q : Nat} (hA : aSx kd B b P hI ρ α τ (σ.1, σ.2.1, [], [], σ.2.2.2.2.1, k_q, n_q) [] [] h) (hs : aSame own9.2.2.1.length own9.2.2.2.1 ρ0 ρ α0 α) (hb : aSub τ0 τ) (hx : xn[x]? = some X)
    (hr : own9.2.2.2.2.2.2.2.any (fun q => Nat.beq q.1 x && aEnd1 own9.2.2.1.length own9.2.2.2.1 (σ.1, σ.2.1, [], [], σ.2.2.2.2.1, k_q, n_q) q.2) = true) : aXf kd B b P hI ρ0 α0 τ0 xn own9 X h := by
  obtain ⟨q, hq, he⟩ := List.any_eq_true.mp hr
  simp only [Bool.and_eq_true] at he
  obtain ⟨ρ_q, α_q, g1, g2, -, -⟩ := aEnd1_ok (σ := (σ.1, σ.2.1, [], [], σ.2.2.2.2.1, k_q, n_q)) (S := []) hA hs he.2
  exact ⟨q, hq, by rw [Nat.eq_of_beq_eq_true he.1]; exact hx, ρ_q, α_q, τ, g1, hb, g2⟩
theorem aSum_ok : ∀ {S : List aV} {st : List Value}, aStk ρ α τ b S st → (st.map fun v => v.category).sum = (S.map acat).sum
  | [], [], _ => rfl
  | v :: S, x :: st, h1 => by
    simp only [List.map_cons, List.sum_cons]
    rw [acat_ok h1.1, aSum_ok h1.2]
  | [], _ :: _, h1 => h1.elim
  | _ :: _, [], h1 => h1.elim
/-- the chain of constructors up to Throwable's -/
def aChain : List String := ["java/lang/RuntimeException", "java/lang/Exception"]
theorem asY_ok (C : xCx p s m args c cc nL Ts own D dA cl tA tyf B) (hE : xEnv D dA cl tA B nw nc ao s) (hlocks : meth.locks = false) (hnt : ∀ x ∈ c.exceptionTable.toList, False) (hl0 : l.stackTraces = false) {x ik ic : Nat} {X : String} (hX : xn[x]? = some X) (hcls : Bundle.fit X = true)
    (hw1 : Cond.classLink own ik X ∈ Ts) (hw2 : Cond.initialized X ∈ Ts) (hat : ∀ w ∈ vx_at0 own ic X aChain, w ∈ Ts ∨ w ∈ nw) (hgood : ∀ w ∈ Cond.classLink own ik X :: Cond.initialized X :: vx_at0 own ic X aChain, vx_ot w = true)
    (d0 : decode cc pc = .ok (.new ik, 3)) (d3 : decode cc (pc + 3) = .ok (.dup, 1)) (d4 : decode cc (pc + 4) = .ok (.invokespecial ic, 3)) (d7 : decode cc (pc + 7) = .ok (.athrow, 1))
    (hA : aSx kd B b P hI ρ α τ σ lv st h) (hs : aSame own9.2.2.1.length own9.2.2.2.1 ρ0 ρ α0 α) (hb : aSub τ0 τ) (h1 : aTw own9 σ x = true) : xSafe p l e (aIr own9) s m args below meth c nL D dA cl tA B (xEnd below args s D dA cl tA B (aQf kd B b P hI ρ0 α0 τ0 own9) (aXf kd B b P hI ρ0 α0 τ0 xn own9) (aIr own9).cells (aIr own9).slots) pc lv st h σ.2.2.2.2.2.1 σ.2.2.2.2.2.2 := by
  simp only [aTw, Bool.and_eq_true] at h1
  obtain ⟨⟨⟨⟨g1, g2⟩, g3⟩, g4⟩, g5⟩ := h1
  have g1 : 5 < (aIr own9).frames := (Nat.blt_eq).mp g1
  have g2 := Nat.le_of_ble_eq_true g2
  have g3 : σ.2.2.2.2.2.1 + 1 ≤ (aIr own9).cells := Nat.le_of_ble_eq_true g3
  have g4 : σ.2.2.2.2.2.2 + 6 ≤ (aIr own9).slots := Nat.le_of_ble_eq_true g4
  have hA2 : aSx kd B b P hI ρ α τ (σ.1, σ.2.1, [], [], σ.2.2.2.2.1, σ.2.2.2.2.2.1 + 1, σ.2.2.2.2.2.2 + 6) [] [] h := ⟨⟨hA.1.1, (fun q hq => by cases hq), trivial, hA.1.2.2.2⟩, hA.2⟩
  refine xs_throw C hE hlocks hnt hl0 (names := aChain) hcls (by decide +kernel) hw1 hw2 hat hgood d0 d3 d4 d7 (by show 2 + 3 < _; omega) ?_ g3 g4 g3 g4 (aXo_ok hA2 hs hb hX g5)
  rw [aSum_ok hA.1.2.2.1]
  show _ + (13 * (2 + 1) + 42) ≤ own9.2.1.2.2.2
  omega
end XEk
