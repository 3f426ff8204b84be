/-! ===== the checker: calls ===== -/
/-- a case of a method: which method, its room, ranges, references, arguments and followed cells at its start, its ends, its throws -/
abbrev aI : Type := Nat × (Nat × Nat × Nat × Nat) × aRg × Nat × List aV × List aO × List aS × List (Nat × aS)
def aIr (I : aI) : Room := { frames := I.2.1.1, cells := I.2.1.2.1, slots := I.2.1.2.2.1, locals := I.2.1.2.2.2 }
def aEa (I : aI) : aS := (I.2.2.1, I.2.2.2.1, [], I.2.2.2.2.1, I.2.2.2.2.2.1, 0, 0)
def aQf (kd : List aKd) (B : Nat) (b : aSc) (P : Nat → Prop) (h : xH) (ρ : Nat → Int) (α τ : Nat → Option Nat) (I : aI) : Option Value → xH → Prop := fun v h_q =>
  ∃ E ∈ I.2.2.2.2.2.2.1, ∃ (ρ_q : Nat → Int) (α_q τ_q : Nat → Option Nat), aSame I.2.2.1.length I.2.2.2.1 ρ ρ_q α α_q ∧ aSub τ τ_q ∧ aSx kd B b P h ρ_q α_q τ_q E [] v.toList h_q
def aXf (kd : List aKd) (B : Nat) (b : aSc) (P : Nat → Prop) (h : xH) (ρ : Nat → Int) (α τ : Nat → Option Nat) (xn : List String) (I : aI) : String → xH → Prop := fun X h_q =>
  ∃ q ∈ I.2.2.2.2.2.2.2, xn[q.1]? = some X ∧ ∃ (ρ_q : Nat → Int) (α_q τ_q : Nat → Option Nat), aSame I.2.2.1.length I.2.2.2.1 ρ ρ_q α α_q ∧ aSub τ τ_q ∧ aSx kd B b P h ρ_q α_q τ_q q.2 [] [] h_q
/-- the case's contract -/
def aMt (D : va_G) (dA : Nat → ClassId) (cl : List vw_C) (tA : List (Nat × FieldType)) (B : Nat) (nw : List Cond) (nc : List (String × String)) (ao : List String) (W0 : List Cond) (l : Launch) (kd : List aKd) (b : aSc) (xn : List String) (y : MethodName) (cw : Cond) (I : aI) : Prop :=
  ∀ (P : Nat → Prop) (ρ : Nat → Int) (α τ : Nat → Option Nat) (av : List Value) (h : xH), aSx kd B b P h ρ α τ (aEa I) [] av h → xMet D dA cl tA B nw nc ao W0 l y cw (aIr I) av h (aQf kd B b P h ρ α τ I) (aXf kd B b P h ρ α τ xn I)
/-- a value at the callee's end, in the caller's numbers -/
def aTr (mp : aMp) (m ma nR na : Nat) (v : aV) : aV :=
  if v.1 < 2 then (if v.2.1 < m then (match aF1 mp.1 v.2.1 with | some q => (v.1, q.1, q.2 + v.2.2) | none => (9, 0, 0)) else (v.1, nR + (v.2.1 - m), v.2.2))
  else if v.1 = 3 ∨ v.1 = 8 then v
  else if v.1 = 2 ∨ v.1 = 4 ∨ v.1 = 5 then
    (if v.2.1 < ma then (match aF1 mp.2 v.2.1 with | some (k + 1) => (v.1, k, v.2.2) | some 0 => if v.1 = 5 then (3, 0, 0) else (9, 0, 0) | none => (9, 0, 0)) else (v.1, na + (v.2.1 - ma), v.2.2))
  else (9, 0, 0)
def aRf (RE : aRg) : aRg → List (Nat × Nat × Int) → Option aRg
  | R, [] => some R
  | R, q :: qs => (match aCut R q.2 (aG RE q.1).1 (aG RE q.1).2 with | some R1 => aRf RE R1 qs | none => none)
def aPs (mp : aMp) (I : aI) (o : aO) : Bool := I.2.2.2.2.2.1.any (fun w => match aF1 mp.2 w.1 with | some k => Nat.beq k (o.1 + 1) | none => false)
def aTo (mp : aMp) (m ma nR na : Nat) (o : aO) : aO := ((aTr mp m ma nR na (2, o.1, 0)).2.1, o.2.1, o.2.2.map (aTr mp m ma nR na))
def aAf (σ : aS) (S : List aV) (mp : aMp) (I : aI) (E : aS) : Option aS := match aRf E.1 σ.1 mp.1 with
  | some R1 => some (R1 ++ E.1.drop I.2.2.1.length, σ.2.1 + (E.2.1 - I.2.2.2.1), σ.2.2.1, E.2.2.2.1.map (aTr mp I.2.2.1.length I.2.2.2.1 σ.1.length σ.2.1) ++ S,
      E.2.2.2.2.1.map (aTo mp I.2.2.1.length I.2.2.2.1 σ.1.length σ.2.1) ++ σ.2.2.2.2.1.filter (fun o => !(aPs mp I o)), σ.2.2.2.2.2.1 + (aIr I).cells, σ.2.2.2.2.2.2 + (aIr I).slots)
  | none => none
def aCk (σ : aS) (S A : List aV) (mp : aMp) (I : aI) : Bool :=
  aWf (aWS σ S) && ack mp (σ.1, σ.2.1, [], A, σ.2.2.2.2.1, 0, 0) (aEa I) && (List.range I.2.2.1.length).all (fun j => (aF1 mp.1 j).isSome) && (List.range I.2.2.2.1).all (fun j => (aF1 mp.2 j).isSome) &&
  mp.1.all (fun q => Nat.blt q.2.1 σ.1.length && decide (aF1 mp.1 q.1 = some q.2)) && mp.2.all (fun q => Nat.ble q.2 σ.2.1)
def aN7 (v : aV) : Bool := !(Nat.beq v.1 7)
def aCe (I : aI) (E : aS) : Bool := Nat.ble I.2.2.1.length E.1.length && Nat.ble I.2.2.2.1 E.2.1 && aWf E && (E.2.2.2.1.all aN7 && E.2.2.2.2.1.all (fun o => o.2.2.all aN7))
/-- the addresses that the callee may touch -/
def aPq (τ : Nat → Option Nat) (h : xH) (αI : Nat → Option Nat) (I : aI) (a : Nat) : Prop := τ a ≠ none ∨ h a = none ∨ ∃ w ∈ I.2.2.2.2.2.1, αI w.1 = some a
theorem aRf_ok {RE : aRg} {ρ : Nat → Int} : ∀ {qs : List (Nat × Nat × Int)} {R : aRg}, aOkR R ρ → (∀ q ∈ qs, (aG RE q.1).1 ≤ ρ q.2.1 + q.2.2 ∧ ρ q.2.1 + q.2.2 ≤ (aG RE q.1).2) → ∃ R1, aRf RE R qs = some R1 ∧ aOkR R1 ρ ∧ R1.length = R.length
  | [], R, hR, _ => ⟨R, rfl, hR, rfl⟩
  | q :: qs, R, hR, h => by
    obtain ⟨R1, e1, e2, e3⟩ := aCut_ok (v := q.2) hR (h q List.mem_cons_self).1 (h q List.mem_cons_self).2
    obtain ⟨R2, f1, f2, f3⟩ := aRf_ok (qs := qs) e2 (fun z hz => h z (List.mem_cons_of_mem _ hz))
    exact ⟨R2, by simp only [aRf]; rw [e1]; exact f1, f2, f3.trans e3⟩
section XC
variable {p : Program} {l : Launch} {e : Env} {R0 : Room} {s : State} {m : MethodId} {args : Array Value} {below : List Frame} {meth : Method} {c : Code} {Q : State → Prop}
variable {cc : ByteArray} {nL : Nat} {Ts : List Cond} {own : String} {D : va_G} {dA : Nat → ClassId} {cl : List vw_C} {tA : List (Nat × FieldType)} {tyf : Nat → Nat → FieldType} {B : Nat}
variable {kd : List aKd} {b : aSc} {P : Nat → Prop} {h0 : xH} {ρ : Nat → Int} {α τ : Nat → Option Nat} {σ : aS} {pc len : Nat} {lv : List (Nat × Value)} {st : List Value} {h : xH} {i : Instr} {l1 : List (Nat × aS)}
variable {I : aI} {mp : aMp} {S A : List aV} {E : aS}
theorem aCk_parts (h1 : aCk σ S A mp I = true) : aWf (aWS σ S) = true ∧ ack mp (σ.1, σ.2.1, [], A, σ.2.2.2.2.1, 0, 0) (aEa I) = true ∧ (∀ j, j < I.2.2.1.length → ∃ q, aF1 mp.1 j = some q ∧ q.1 < σ.1.length) ∧ (∀ j, j < I.2.2.2.1 → ∃ k, aF1 mp.2 j = some k ∧ k ≤ σ.2.1) ∧ (∀ q ∈ mp.1, aF1 mp.1 q.1 = some q.2) := by
  simp only [aCk, Bool.and_eq_true] at h1
  obtain ⟨⟨⟨⟨⟨g1, g2⟩, g3⟩, g4⟩, g5⟩, g6⟩ := h1
  refine ⟨g1, g2, fun j hj => ?_, fun j hj => ?_, fun q hq => ?_⟩
  · obtain ⟨q, hq⟩ := Option.isSome_iff_exists.mp (List.all_eq_true.mp g3 j (List.mem_range.mpr hj))
    have h9 := List.all_eq_true.mp g5 _ (aF1_mem hq)
    simp only [Bool.and_eq_true] at h9
    exact ⟨q, hq, (Nat.blt_eq).mp h9.1⟩
  · obtain ⟨k, hk⟩ := Option.isSome_iff_exists.mp (List.all_eq_true.mp g4 j (List.mem_range.mpr hj))
    exact ⟨k, hk, Nat.le_of_ble_eq_true (List.all_eq_true.mp g6 _ (aF1_mem hk))⟩
  · have h9 := List.all_eq_true.mp g5 q hq
    simp only [Bool.and_eq_true, decide_eq_true_eq] at h9
    exact h9.2
/-- the callee's start -/
theorem aIn_call {av : List Value} (hA : aSx kd B b P h0 ρ α τ (σ.1, σ.2.1, [], A, σ.2.2.2.2) lv av h) (hk : ack mp (σ.1, σ.2.1, [], A, σ.2.2.2.2.1, 0, 0) (aEa I) = true) : aSx kd B b (aPq τ h (aAB mp α) I) h (aRB mp I.2.2.1 ρ) (aAB mp α) τ (aEa I) [] av h := by
  have hA0 : aSx kd B b P h0 ρ α τ (σ.1, σ.2.1, [], A, σ.2.2.2.2.1, 0, 0) [] av h := ⟨⟨hA.1.1, (fun q hq => by cases hq), hA.1.2.2.1, hA.1.2.2.2.1, hA.1.2.2.2.2⟩, hA.2⟩
  obtain ⟨g1, -, -⟩ := ack_ok hA0 hk
  refine ⟨g1.1, fun a ha => ⟨rfl, ?_⟩, fun w hw a ha => Or.inr (Or.inr ⟨w, hw, ha⟩), fun a ha => Or.inr (Or.inl ha)⟩
  cases ht : τ a with
  | none => rfl
  | some K => exact absurd (Or.inl (by rw [ht]; exact fun q => by cases q)) ha
/-- **behind the call** -/
theorem aAfter {τ_q α_q : Nat → Option Nat} {ρ_q : Nat → Int} {vs : List Value} {h_q : xH} (hA : aSx kd B b P h0 ρ α τ (aWS σ S) lv st h) (hc : aCk σ S A mp I = true) (he : aCe I E = true)
    (hs : aSame I.2.2.1.length I.2.2.2.1 (aRB mp I.2.2.1 ρ) ρ_q (aAB mp α) α_q) (hb : aSub τ τ_q) (hE : aSx kd B b (aPq τ h (aAB mp α) I) h ρ_q α_q τ_q E [] vs h_q) :
    ∃ σ2, aAf σ S mp I E = some σ2 ∧ ∃ (ρ2 : Nat → Int) (α2 : Nat → Option Nat), aSame σ.1.length σ.2.1 ρ ρ2 α α2 ∧ aSx kd B b P h0 ρ2 α2 τ_q σ2 lv (vs ++ st) h_q := by
  obtain ⟨c1, c2, c3, c4, c5⟩ := aCk_parts hc
  simp only [aCe, Bool.and_eq_true] at he
  obtain ⟨⟨⟨he1, he2⟩, he3⟩, he4, he5⟩ := he
  have he1 := Nat.le_of_ble_eq_true he1
  have he2 := Nat.le_of_ble_eq_true he2
  obtain ⟨w0, w1, w2, w3⟩ := aWf_parts he3
  have ckA := c2
  simp only [ack, Bool.and_eq_true] at ckA
  obtain ⟨⟨⟨⟨⟨⟨k1, -⟩, -⟩, k4⟩, k5⟩, -⟩, -⟩ := ckA
  have kR := k1
  simp only [ackR, Bool.and_eq_true] at kR
  have hrho : ∀ j q, aF1 mp.1 j = some q → j < I.2.2.1.length → ρ_q j = ρ q.1 + q.2 := fun j q hq hj => by
    rw [hs.1 j hj]
    unfold aRB
    rw [hq]
  have halp : ∀ j, j < I.2.2.2.1 → α_q j = aAB mp α j := fun j hj => hs.2 j hj
  obtain ⟨R1, r1, r2, r3⟩ := aRf_ok (RE := E.1) (qs := mp.1) hA.1.1 (fun q hq => by
    have hlt : q.1 < I.2.2.1.length := by
      have := List.all_eq_true.mp kR.1 q hq
      simp only [Bool.and_eq_true] at this
      exact (Nat.blt_eq).mp this.1.1
    have h9 := hrho q.1 q.2 (c5 q hq) hlt
    rw [← h9]
    exact hE.1.1 q.1)
  have r3 : R1.length = σ.1.length := r3
  obtain ⟨ρ2, hρ2⟩ : ∃ ρ2 : Nat → Int, ρ2 = fun j => if j < σ.1.length then ρ j else ρ_q (I.2.2.1.length + (j - σ.1.length)) := ⟨_, rfl⟩
  obtain ⟨α2, hα2⟩ : ∃ α2 : Nat → Option Nat, α2 = fun j => if j < σ.2.1 then α j else α_q (I.2.2.2.1 + (j - σ.2.1)) := ⟨_, rfl⟩
  have eρ : ∀ j, j < σ.1.length → ρ2 j = ρ j := fun j hj => by rw [hρ2]; simp [hj]
  have eρ_q : ∀ j, ρ2 (σ.1.length + j) = ρ_q (I.2.2.1.length + j) := fun j => by
    rw [hρ2]
    simp
    intro q
    omega
  have eα : ∀ j, j < σ.2.1 → α2 j = α j := fun j hj => by rw [hα2]; simp [hj]
  have eα_q : ∀ j, α2 (σ.2.1 + j) = α_q (I.2.2.2.1 + j) := fun j => by
    rw [hα2]
    simp
    intro q
    omega
  have hsm : aSame σ.1.length σ.2.1 ρ ρ2 α α2 := ⟨eρ, eα⟩
  have okR : aOkR (R1 ++ E.1.drop I.2.2.1.length) ρ2 := by
    intro k
    unfold aG
    rw [List.getD_eq_getElem?_getD]
    by_cases hk : k < σ.1.length
    · rw [List.getElem?_append_left (by omega), eρ k hk]
      have := r2 k
      unfold aG at this
      rw [List.getD_eq_getElem?_getD] at this
      exact this
    · rw [List.getElem?_append_right (by omega), List.getElem?_drop]
      have := hE.1.1 (I.2.2.1.length + (k - σ.1.length))
      unfold aG at this
      rw [List.getD_eq_getElem?_getD] at this
      rw [r3]
      have h9 := eρ_q (k - σ.1.length)
      rw [show σ.1.length + (k - σ.1.length) = k by omega] at h9
      rw [h9]
      exact this
  have refs : ∀ (k : Nat) (r : Option Nat), α_q k = r → k < E.2.1 → (k < I.2.2.2.1 → (∃ z, aF1 mp.2 k = some (z + 1) ∧ α2 z = r) ∨ (aF1 mp.2 k = some 0 ∧ r = none)) ∧ (¬ k < I.2.2.2.1 → α2 (σ.2.1 + (k - I.2.2.2.1)) = r) := by
    intro k r hr hk
    refine ⟨fun hlt => ?_, fun hlt => ?_⟩
    · obtain ⟨z, hz, hzb⟩ := c4 k hlt
      have h9 := halp k hlt
      rw [hr] at h9
      unfold aAB at h9
      rw [hz] at h9
      cases z with
      | zero => exact Or.inr ⟨hz, h9⟩
      | succ z => exact Or.inl ⟨z, hz, by rw [eα z (by omega)]; exact h9.symm⟩
    · rw [eα_q, show I.2.2.2.1 + (k - I.2.2.2.1) = k by omega]
      exact hr
  have hT : ∀ (v : aV) (x : Value), aWv E.1.length E.2.1 v = true → aN7 v = true → aM ρ_q α_q τ_q b v x → aM ρ2 α2 τ_q b (aTr mp I.2.2.1.length I.2.2.2.1 σ.1.length σ.2.1 v) x := by
    intro v x hw h7 hv
    obtain ⟨t, k, o⟩ := v
    have wk : ¬ (t < 2 ∨ t = 7) → t ≠ 3 → t ≠ 8 → k < E.2.1 := fun g1 g2 g3 => by
      simp only [aWv, if_neg g1, Bool.or_eq_true] at hw
      rcases hw with (hw | hw) | hw
      · exact (Nat.blt_eq).mp hw
      · exact absurd (Nat.eq_of_beq_eq_true hw) g2
      · exact absurd (Nat.eq_of_beq_eq_true hw) g3
    have num : ∀ z : Int, z = ρ_q k + o → (k < I.2.2.1.length → ∃ q, aF1 mp.1 k = some q ∧ z = ρ2 q.1 + (q.2 + o)) ∧ (¬ k < I.2.2.1.length → z = ρ2 (σ.1.length + (k - I.2.2.1.length)) + o) := by
      intro z hz
      refine ⟨fun hlt => ?_, fun hlt => ?_⟩
      · obtain ⟨q, hq, hqb⟩ := c3 k hlt
        exact ⟨q, hq, by rw [eρ _ hqb, hz, hrho k q hq hlt]; omega⟩
      · rw [eρ_q, show I.2.2.1.length + (k - I.2.2.1.length) = k by omega]
        exact hz
    unfold aTr
    dsimp only
    have hv0 := hv
    unfold aM at hv
    dsimp only at hv
    split at hv
    · obtain ⟨z, h1, h2⟩ := hv
      rw [if_pos (by decide)]
      obtain ⟨n1, n2⟩ := num _ h2
      split
      · rename_i hlt
        obtain ⟨q, hq, h3⟩ := n1 hlt
        rw [hq]
        exact ⟨z, h1, h3⟩
      · rename_i hlt
        exact ⟨z, h1, n2 hlt⟩
    · obtain ⟨z, h1, h2⟩ := hv
      rw [if_pos (by decide)]
      obtain ⟨n1, n2⟩ := num _ h2
      split
      · rename_i hlt
        obtain ⟨q, hq, h3⟩ := n1 hlt
        rw [hq]
        exact ⟨z, h1, h3⟩
      · rename_i hlt
        exact ⟨z, h1, n2 hlt⟩
    · obtain ⟨a, h1, h2⟩ := hv
      rw [if_neg (by decide), if_neg (by decide), if_pos (by decide)]
      obtain ⟨n1, n2⟩ := refs k _ h2 (wk (by decide) (by decide) (by decide))
      split
      · rename_i hlt
        rcases n1 hlt with ⟨z, hz, h3⟩ | ⟨-, h3⟩
        · rw [hz]; exact ⟨a, h1, h3⟩
        · cases h3
      · rename_i hlt
        exact ⟨a, h1, n2 hlt⟩
    · rw [if_neg (by decide), if_pos (by decide)]
      exact hv
    · obtain ⟨a, h1, h2, h4⟩ := hv
      rw [if_neg (by decide), if_neg (by decide), if_pos (by decide)]
      obtain ⟨n1, n2⟩ := refs k _ h2 (wk (by decide) (by decide) (by decide))
      split
      · rename_i hlt
        rcases n1 hlt with ⟨z, hz, h3⟩ | ⟨-, h3⟩
        · rw [hz]; exact ⟨a, h1, h3, h4⟩
        · cases h3
      · rename_i hlt
        exact ⟨a, h1, n2 hlt, h4⟩
    · rw [if_neg (by decide), if_neg (by decide), if_pos (by decide)]
      obtain ⟨n1, n2⟩ := refs k _ rfl (wk (by decide) (by decide) (by decide))
      split
      · rename_i hlt
        rcases n1 hlt with ⟨z, hz, h3⟩ | ⟨hz, h3⟩
        · rw [hz]
          rcases hv with ⟨h1, h2⟩ | ⟨a, h1, h2, h4⟩
          · exact Or.inl ⟨h1, h3.trans h2⟩
          · exact Or.inr ⟨a, h1, h3.trans h2, h4⟩
        · rw [hz]
          rcases hv with ⟨h1, h2⟩ | ⟨a, h1, h2, h4⟩
          · exact h1
          · rw [h2] at h3; cases h3
      · rename_i hlt
        rcases hv with ⟨h1, h2⟩ | ⟨a, h1, h2, h4⟩
        · exact Or.inl ⟨h1, (n2 hlt).trans h2⟩
        · exact Or.inr ⟨a, h1, (n2 hlt).trans h2, h4⟩
    · cases h7
    · rw [if_neg (by decide), if_pos (by decide)]
      exact hv
    · exact hv.elim
  have keyO : ∀ w ∈ I.2.2.2.2.2.1, ∃ k o, aF1 mp.2 w.1 = some (k + 1) ∧ aFo σ.2.2.2.2.1 k = some o ∧ aAB mp α w.1 = α k := by
    intro w hw
    have h3 := List.all_eq_true.mp k4 w hw
    obtain ⟨o, ho⟩ := Option.isSome_iff_exists.mp h3
    obtain ⟨k, g1, g2, g3, g4⟩ := ackO_ok ho
    exact ⟨k, o, g1, g2, by unfold aAB; rw [g1]⟩
  have hPP : ∀ a, aPq τ h (aAB mp α) I a → P a := by
    intro a ha
    rcases ha with ha | ha | ⟨w, hw, ha⟩
    · apply Classical.byContradiction
      intro hp
      exact ha (hA.2.1 a hp).2
    · exact (aSx_P hA ha).1
    · obtain ⟨k, o, g1, g2, g3⟩ := keyO w hw
      obtain ⟨m1, m2⟩ := aFo_mem g2
      rw [g3, ← m2] at ha
      exact hA.2.2.1 o m1 a ha
  have fr : ∀ o ∈ σ.2.2.2.2.1, aPs mp I o = false → ∀ a, α o.1 = some a → ¬ aPq τ h (aAB mp α) I a := by
    intro o ho hps a ha hq
    obtain ⟨a_q, V, e1, e2, e3, e4, e5⟩ := hA.1.2.2.2.1.1 o ho
    rw [ha] at e1
    cases e1
    rcases hq with hq | hq | ⟨w, hw, hq⟩
    · exact hq e3
    · rw [hq] at e4; cases e4
    · obtain ⟨k, o1, g1, g2, g3⟩ := keyO w hw
      obtain ⟨m1, m2⟩ := aFo_mem g2
      rw [g3] at hq
      have hko : k = o.1 := by
        apply Classical.byContradiction
        intro hne
        have := aObs_ne hA.1.2.2.2.1 m1 ho (by rw [m2]; exact hne)
        rw [m2, hq, ha] at this
        exact this rfl
      have : aPs mp I o = true := by
        unfold aPs
        rw [List.any_eq_true]
        refine ⟨w, hw, ?_⟩
        rw [g1, hko]
        exact Nat.beq_refl _
      rw [hps] at this
      cases this
  have wfO : ∀ o ∈ E.2.2.2.2.1, o.1 < E.2.1 ∧ o.2.2.all (aWv E.1.length E.2.1) = true ∧ o.2.2.all aN7 = true := by
    intro o ho
    have h9 := List.all_eq_true.mp w3 o ho
    simp only [Bool.and_eq_true] at h9
    exact ⟨(Nat.blt_eq).mp h9.1, h9.2, List.all_eq_true.mp he5 o ho⟩
  have sym : ∀ o ∈ E.2.2.2.2.1, ∀ a, α_q o.1 = some a → α2 (aTo mp I.2.2.1.length I.2.2.2.1 σ.1.length σ.2.1 o).1 = some a := by
    intro o ho a ha
    obtain ⟨n1, n2⟩ := refs o.1 _ ha (wfO o ho).1
    unfold aTo aTr
    dsimp only
    rw [if_neg (by decide), if_neg (by decide), if_pos (by decide)]
    split
    · rename_i hlt
      rcases n1 hlt with ⟨z, hz, h3⟩ | ⟨-, h3⟩
      · rw [hz]; exact h3
      · cases h3
    · rename_i hlt
      exact n2 hlt
  obtain ⟨v0, v1, v2, v3⟩ := aWf_parts c1
  have haf : aAf σ S mp I E = some (R1 ++ E.1.drop I.2.2.1.length, σ.2.1 + (E.2.1 - I.2.2.2.1), σ.2.2.1, E.2.2.2.1.map (aTr mp I.2.2.1.length I.2.2.2.1 σ.1.length σ.2.1) ++ S,
      E.2.2.2.2.1.map (aTo mp I.2.2.1.length I.2.2.2.1 σ.1.length σ.2.1) ++ σ.2.2.2.2.1.filter (fun o => !(aPs mp I o)), σ.2.2.2.2.2.1 + (aIr I).cells, σ.2.2.2.2.2.2 + (aIr I).slots) := by
    unfold aAf
    rw [show aRf E.1 σ.1 mp.1 = some R1 from r1]
  refine ⟨_, haf, ρ2, α2, hsm, ⟨⟨okR, aLoc_to hsm hb v1 hA.1.2.1, ?_, ⟨?_, ?_⟩, hE.1.2.2.2.2⟩, ?_, ?_, hA.2.2.2⟩⟩
  · have app : ∀ (L : List aV) (vs : List Value), L.all (aWv E.1.length E.2.1) = true → L.all aN7 = true → aStk ρ_q α_q τ_q b L vs → aStk ρ2 α2 τ_q b (L.map (aTr mp I.2.2.1.length I.2.2.2.1 σ.1.length σ.2.1) ++ S) (vs ++ st) := by
      intro L
      induction L with
      | nil =>
        intro vs _ _ hv
        cases vs with
        | nil => exact aStk_to hsm hb v2 hA.1.2.2.1
        | cons _ _ => exact hv.elim
      | cons v L ih =>
        intro vs g1 g2 hv
        obtain ⟨x, vs_q, rfl, hx, h2⟩ := aStk_cons hv
        simp only [List.all_cons, Bool.and_eq_true] at g1 g2
        exact ⟨hT v x g1.1 g2.1 hx, ih vs_q g1.2 g2.2 h2⟩
    exact app _ _ w2 he4 hE.1.2.2.1
  · intro o ho
    rcases List.mem_append.mp ho with ho | ho
    · obtain ⟨o_q, ho_q, rfl⟩ := List.mem_map.mp ho
      obtain ⟨a, V, e1, e2, e3, e4, e5⟩ := hE.1.2.2.2.1.1 o_q ho_q
      refine ⟨a, V, sym o_q ho_q a e1, e2, e3, by simpa [aTo] using e4, fun j u hu => ?_⟩
      have hu : (o_q.2.2.map (aTr mp I.2.2.1.length I.2.2.2.1 σ.1.length σ.2.1))[j]? = some u := hu
      rw [List.getElem?_map] at hu
      cases hj : o_q.2.2[j]? with
      | none => rw [hj] at hu; cases hu
      | some v =>
        rw [hj] at hu
        cases hu
        obtain ⟨q1, q2, q3⟩ := wfO o_q ho_q
        exact hT v _ (List.all_eq_true.mp q2 v (List.mem_of_getElem? hj)) (List.all_eq_true.mp q3 v (List.mem_of_getElem? hj)) (e5 j v hj)
    · obtain ⟨m1, m2⟩ := List.mem_filter.mp ho
      have hps : aPs mp I o = false := by simpa using m2
      obtain ⟨a, V, e1, e2, e3, e4, e5⟩ := hA.1.2.2.2.1.1 o m1
      have hn := fr o m1 hps a e1
      have h9 := List.all_eq_true.mp v3 o m1
      simp only [Bool.and_eq_true] at h9
      obtain ⟨f1, f2⟩ := hE.2.1 a hn
      exact ⟨a, V, by rw [eα _ ((Nat.blt_eq).mp h9.1)]; exact e1, e2, f2, by rw [f1]; exact e4, fun j v hv => aM_to hsm hb (List.all_eq_true.mp h9.2 v (List.mem_of_getElem? hv)) (e5 j v hv)⟩
  · rw [List.pairwise_append]
    refine ⟨?_, ?_, ?_⟩
    · rw [List.pairwise_map]
      refine List.Pairwise.imp_of_mem ?_ hE.1.2.2.2.1.2
      intro o o_q ho ho_q hne
      obtain ⟨a, V, e1, -⟩ := hE.1.2.2.2.1.1 o ho
      obtain ⟨a_q, V_q, e1_q, -⟩ := hE.1.2.2.2.1.1 o_q ho_q
      rw [sym o ho a e1, sym o_q ho_q a_q e1_q]
      rw [e1, e1_q] at hne
      exact hne
    · refine List.Pairwise.filter _ (List.Pairwise.imp_of_mem ?_ hA.1.2.2.2.1.2)
      intro o o_q ho ho_q hne
      have h9 := List.all_eq_true.mp v3 o ho
      have h9_q := List.all_eq_true.mp v3 o_q ho_q
      simp only [Bool.and_eq_true] at h9 h9_q
      rw [eα _ ((Nat.blt_eq).mp h9.1), eα _ ((Nat.blt_eq).mp h9_q.1)]
      exact hne
    · intro o ho o_q ho_q
      obtain ⟨o1, ho1, rfl⟩ := List.mem_map.mp ho
      obtain ⟨m1, m2⟩ := List.mem_filter.mp ho_q
      have hps : aPs mp I o_q = false := by simpa using m2
      obtain ⟨a, V, e1, -⟩ := hE.1.2.2.2.1.1 o1 ho1
      obtain ⟨a_q, V_q, e1_q, -⟩ := hA.1.2.2.2.1.1 o_q m1
      have h9 := List.all_eq_true.mp v3 o_q m1
      simp only [Bool.and_eq_true] at h9
      rw [sym o1 ho1 a e1, eα _ ((Nat.blt_eq).mp h9.1), e1_q]
      intro q
      cases q
      exact fr o_q m1 hps _ e1_q (hE.2.2.1 o1 ho1 _ e1)
  · intro a hp
    have hn : ¬ aPq τ h (aAB mp α) I a := fun q => hp (hPP a q)
    obtain ⟨f1, f2⟩ := hE.2.1 a hn
    exact ⟨f1.trans (hA.2.1 a hp).1, f2⟩
  · intro o ho a ha
    rcases List.mem_append.mp ho with ho | ho
    · obtain ⟨o1, ho1, rfl⟩ := List.mem_map.mp ho
      obtain ⟨a_q, V, e1, -⟩ := hE.1.2.2.2.1.1 o1 ho1
      rw [sym o1 ho1 a_q e1] at ha
      cases ha
      exact hPP _ (hE.2.2.1 o1 ho1 _ e1)
    · obtain ⟨m1, m2⟩ := List.mem_filter.mp ho
      have h9 := List.all_eq_true.mp v3 o m1
      simp only [Bool.and_eq_true] at h9
      rw [eα _ ((Nat.blt_eq).mp h9.1)] at ha
      exact hA.2.2.1 o m1 a ha
end XC
