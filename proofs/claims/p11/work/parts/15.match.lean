/-! ===== the checker: one state is a case of another ===== -/
/-- of the numbers and of the references of a pattern: which they are here (references: 0 is null, k + 1 is k) -/
abbrev aMp : Type := List (Nat × Nat × Int) × List (Nat × Nat)
def aRB (mp : aMp) (RB : aRg) (ρ : Nat → Int) : Nat → Int := fun j => match aF1 mp.1 j with
  | some q => ρ q.1 + q.2
  | none => (aG RB j).1
def aAB (mp : aMp) (α : Nat → Option Nat) : Nat → Option Nat := fun j => match aF1 mp.2 j with
  | some (k + 1) => α k
  | _ => none
def ackV (R : aRg) (mp : aMp) (w v : aV) : Bool := match w.1 with
  | 0 => decide (v.1 = 0) && (match aF1 mp.1 w.2.1 with | some q => (Nat.beq q.1 v.2.1 && decide (q.2 + w.2.2 = v.2.2)) || (Nat.beq q.1 0 && aZ R && aIn R v (q.2 + w.2.2) (q.2 + w.2.2)) | none => false)
  | 1 => decide (v.1 = 1) && (match aF1 mp.1 w.2.1 with | some q => (Nat.beq q.1 v.2.1 && decide (q.2 + w.2.2 = v.2.2)) || (Nat.beq q.1 0 && aZ R && aIn R v (q.2 + w.2.2) (q.2 + w.2.2)) | none => false)
  | 2 => decide (v.1 = 2) && (match aF1 mp.2 w.2.1 with | some k => Nat.beq k (v.2.1 + 1) | none => false)
  | 3 => decide (v.1 = 3)
  | 4 => decide (v.1 = 4) && decide (v.2.2 = w.2.2) && (match aF1 mp.2 w.2.1 with | some k => Nat.beq k (v.2.1 + 1) | none => false)
  | 5 => (decide (v.1 = 3) && (match aF1 mp.2 w.2.1 with | some k => Nat.beq k 0 | none => false)) || ((decide (v.1 = 4) || decide (v.1 = 5)) && decide (v.2.2 = w.2.2) && (match aF1 mp.2 w.2.1 with | some k => Nat.beq k (v.2.1 + 1) | none => false))
  | 7 => decide (v.1 = 7) && (List.range 7).all (fun j => decide (aF1 mp.1 (w.2.1 + j) = some (v.2.1 + j, 0)))
  | _ => false
theorem ackV_ok {R RB : aRg} {ρ : Nat → Int} {α τ : Nat → Option Nat} {b : aSc} {mp : aMp} {w v : aV} {x : Value} (hR : aOkR R ρ) (h : ackV R mp w v = true) (hv : aM ρ α τ b v x) : aM (aRB mp RB ρ) (aAB mp α) τ b w x := by
  obtain ⟨t, k, o⟩ := w
  obtain ⟨t1, k1, o1⟩ := v
  have num : ∀ {z : Int}, z = ρ k1 + o1 → (match aF1 mp.1 k with | some q => (Nat.beq q.1 k1 && decide (q.2 + o = o1)) || (Nat.beq q.1 0 && aZ R && aIn R (t1, k1, o1) (q.2 + o) (q.2 + o)) | none => false) = true → z = aRB mp RB ρ k + o := by
    intro z hz h
    unfold aRB
    split at h
    · rename_i q hq
      simp only [Bool.or_eq_true, Bool.and_eq_true, decide_eq_true_eq] at h
      rcases h with ⟨h1, h2⟩ | ⟨⟨h1, h2⟩, h3⟩
      · rw [Nat.eq_of_beq_eq_true h1]
        omega
      · have h4 := aIn_ok hR h3
        dsimp only at h4
        rw [Nat.eq_of_beq_eq_true h1, aZ_ok h2 hR]
        omega
    · cases h
  have ref : ∀ {r : Option Nat} {kk : Nat}, (match aF1 mp.2 k with | some z => Nat.beq z kk | none => false) = true → (kk = 0 → r = none) → (∀ z, kk = z + 1 → r = α z) → aAB mp α k = r := by
    intro r kk h h1 h2
    unfold aAB
    split at h
    · rename_i z hz
      rw [hz]
      have := Nat.eq_of_beq_eq_true h
      subst this
      cases z with
      | zero => exact (h1 rfl).symm
      | succ z => exact (h2 z rfl).symm
    · cases h
  unfold ackV at h
  dsimp only at h
  split at h
  · simp only [Bool.and_eq_true, decide_eq_true_eq] at h
    obtain ⟨rfl, h⟩ := h
    obtain ⟨z, h1, h2⟩ := (show ∃ z : Int32, x = .int z ∧ z.toInt = ρ k1 + o1 from hv)
    exact ⟨z, h1, num h2 h⟩
  · simp only [Bool.and_eq_true, decide_eq_true_eq] at h
    obtain ⟨rfl, h⟩ := h
    obtain ⟨z, h1, h2⟩ := (show ∃ z : Int64, x = .long z ∧ z.toInt = ρ k1 + o1 from hv)
    exact ⟨z, h1, num h2 h⟩
  · simp only [Bool.and_eq_true, decide_eq_true_eq] at h
    obtain ⟨rfl, h⟩ := h
    obtain ⟨a, h1, h2⟩ := (show ∃ a : Nat, x = .ref a ∧ α k1 = some a from hv)
    exact ⟨a, h1, (ref h (fun q => by omega) (fun z q => by have : z = k1 := by omega
                                                            rw [this])).trans h2⟩
  · simp only [decide_eq_true_eq] at h
    subst h
    exact hv
  · simp only [Bool.and_eq_true, decide_eq_true_eq] at h
    obtain ⟨⟨rfl, rfl⟩, h⟩ := h
    obtain ⟨a, h1, h2, h3⟩ := (show ∃ a : Nat, x = .ref a ∧ α k1 = some a ∧ τ a = some o1.toNat from hv)
    exact ⟨a, h1, (ref h (fun q => by omega) (fun z q => by have : z = k1 := by omega
                                                            rw [this])).trans h2, h3⟩
  · simp only [Bool.or_eq_true, Bool.and_eq_true, decide_eq_true_eq] at h
    rcases h with ⟨rfl, h⟩ | ⟨⟨h5, rfl⟩, h⟩
    · exact Or.inl ⟨hv, ref h (fun _ => rfl) (fun z q => by omega)⟩
    · have hk := ref (r := α k1) h (fun q => by omega) (fun z q => by have : z = k1 := by omega
                                                                      rw [this])
      rcases h5 with rfl | rfl
      · obtain ⟨a, h1, h2, h3⟩ := (show ∃ a : Nat, x = .ref a ∧ α k1 = some a ∧ τ a = some o1.toNat from hv)
        exact Or.inr ⟨a, h1, hk.trans h2, h3⟩
      · rcases (show (x = .null ∧ α k1 = none) ∨ ∃ a : Nat, x = .ref a ∧ α k1 = some a ∧ τ a = some o1.toNat from hv) with ⟨h1, h2⟩ | ⟨a, h1, h2, h3⟩
        · exact Or.inl ⟨h1, hk.trans h2⟩
        · exact Or.inr ⟨a, h1, hk.trans h2, h3⟩
  · simp only [Bool.and_eq_true, decide_eq_true_eq, List.all_eq_true, List.mem_range] at h
    obtain ⟨rfl, h⟩ := h
    obtain ⟨h1, h2, h3⟩ := (show x = .ref b.1 ∧ ρ k1 = (b.2.1 : Int) ∧ ∀ j, j < 6 → ρ (k1 + 1 + j) = b.2.2 j from hv)
    have hr : ∀ j, j < 7 → aRB mp RB ρ (k + j) = ρ (k1 + j) := fun j hj => by
      unfold aRB
      rw [h j hj]
      simp
    refine ⟨h1, ?_, fun j hj => ?_⟩
    · have := hr 0 (by omega)
      exact this.trans h2
    · have := hr (1 + j) (by omega)
      rw [← Nat.add_assoc, ← Nat.add_assoc] at this
      exact this.trans (h3 j hj)
  · cases h
def ackL (R : aRg) (mp : aMp) : List aV → List aV → Bool
  | [], [] => true
  | w :: ws, v :: vs => ackV R mp w v && ackL R mp ws vs
  | _, _ => false
theorem ackL_ok {R RB : aRg} {ρ : Nat → Int} {α τ : Nat → Option Nat} {b : aSc} {mp : aMp} (hR : aOkR R ρ) : ∀ {W V : List aV} {st : List Value}, ackL R mp W V = true → aStk ρ α τ b V st → aStk (aRB mp RB ρ) (aAB mp α) τ b W st
  | [], [], [], _, _ => trivial
  | w :: ws, v :: vs, x :: xs, h, hs => by
    simp only [ackL, Bool.and_eq_true] at h
    exact ⟨ackV_ok hR h.1 hs.1, ackL_ok hR h.2 hs.2⟩
  | [], [], _ :: _, _, hs => hs.elim
  | _ :: _, _ :: _, [], _, hs => hs.elim
  | [], _ :: _, _, h, _ => by cases h
  | _ :: _, [], _, h, _ => by cases h
theorem ackL_at {R : aRg} {mp : aMp} : ∀ {W V : List aV}, ackL R mp W V = true → W.length = V.length ∧ ∀ (j : Nat) (w : aV), W[j]? = some w → ∃ v, V[j]? = some v ∧ ackV R mp w v = true
  | [], [], _ => ⟨rfl, fun j w hw => by simp at hw⟩
  | w :: ws, v :: vs, h => by
    simp only [ackL, Bool.and_eq_true] at h
    obtain ⟨h1, h2⟩ := ackL_at h.2
    refine ⟨by simp [h1], fun j u hu => ?_⟩
    cases j with
    | zero =>
      simp at hu
      subst hu
      exact ⟨v, by simp, h.1⟩
    | succ j =>
      obtain ⟨v_q, h3, h4⟩ := h2 j u (by simpa using hu)
      exact ⟨v_q, by simpa using h3, h4⟩
  | [], _ :: _, h => by cases h
  | _ :: _, [], h => by cases h
/-- a followed cell of the pattern: which it is here -/
def ackO (R : aRg) (mp : aMp) (O : List aO) (w : aO) : Option aO := match aF1 mp.2 w.1 with
  | some (k + 1) => (match aFo O k with | some o => if w.2.1 = o.2.1 ∧ ackL R mp w.2.2 o.2.2 = true then some o else none | none => none)
  | _ => none
def ackR (R RB : aRg) (mp : aMp) : Bool := mp.1.all (fun q => Nat.blt q.1 RB.length && decide ((aG RB q.1).1 ≤ (aG R q.2.1).1 + q.2.2) && decide ((aG R q.2.1).2 + q.2.2 ≤ (aG RB q.1).2)) && RB.all (fun r => decide (r.1 ≤ r.2))
theorem ackR_ok {R RB : aRg} {ρ : Nat → Int} {mp : aMp} (hR : aOkR R ρ) (h : ackR R RB mp = true) : aOkR RB (aRB mp RB ρ) := by
  simp only [ackR, Bool.and_eq_true] at h
  intro k
  unfold aRB
  split
  · rename_i q hq
    have h1 := List.all_eq_true.mp h.1 _ (aF1_mem hq)
    simp only [Bool.and_eq_true, decide_eq_true_eq] at h1
    have := hR q.1
    omega
  · refine ⟨Int.le_refl _, ?_⟩
    unfold aG
    by_cases hk : k < RB.length
    · have h1 := List.all_eq_true.mp h.2 RB[k] (List.getElem_mem hk)
      simp only [decide_eq_true_eq] at h1
      rw [List.getD_eq_getElem?_getD, List.getElem?_eq_getElem hk]
      exact h1
    · rw [List.getD_eq_getElem?_getD, List.getElem?_eq_none (by omega)]
      exact Int.le_refl _
/-- nothing twice -/
def aNod : List Nat → Bool
  | [] => true
  | x :: xs => xs.all (fun y => !(Nat.beq x y)) && aNod xs
def ack (mp : aMp) (σ W : aS) : Bool :=
  ackR σ.1 W.1 mp && W.2.2.1.all (fun q => match aget σ.2.2.1 q.1 with | some v => ackV σ.1 mp q.2 v | none => false) && ackL σ.1 mp W.2.2.2.1 σ.2.2.2.1 &&
  W.2.2.2.2.1.all (fun w => (ackO σ.1 mp σ.2.2.2.2.1 w).isSome) && aNod (W.2.2.2.2.1.map (fun w => (aF1 mp.2 w.1).getD 0)) && Nat.ble σ.2.2.2.2.2.1 W.2.2.2.2.2.1 && Nat.ble σ.2.2.2.2.2.2 W.2.2.2.2.2.2
theorem ackO_ok {R : aRg} {mp : aMp} {O : List aO} {w o : aO} (h : ackO R mp O w = some o) : ∃ k, aF1 mp.2 w.1 = some (k + 1) ∧ aFo O k = some o ∧ w.2.1 = o.2.1 ∧ ackL R mp w.2.2 o.2.2 = true := by
  unfold ackO at h
  split at h
  · rename_i k hk
    split at h
    · rename_i o_q ho
      split at h
      · rename_i hc
        cases h
        exact ⟨k, hk, ho, hc.1, hc.2⟩
      · cases h
    · cases h
  · cases h
theorem aNod_pw {β : Type} {f : β → Nat} : ∀ {l : List β}, aNod (l.map f) = true → l.Pairwise (fun x y => f x ≠ f y)
  | [], _ => List.Pairwise.nil
  | x :: xs, h => by
    simp only [List.map_cons, aNod, Bool.and_eq_true] at h
    rw [List.pairwise_cons]
    refine ⟨fun y hy he => ?_, aNod_pw h.2⟩
    have h1 := List.all_eq_true.mp h.1 (f y) (List.mem_map.mpr ⟨y, hy, rfl⟩)
    rw [he] at h1
    simp at h1
section XK
variable {p : Program} {l : Launch} {e : Env} {R0 : Room} {s : State} {m : MethodId} {args : Array Value} {below : List Frame} {meth : Method} {c : Code} {Q : State → Prop}
variable {cc : ByteArray} {nL : Nat} {Ts : List Cond} {own : String} {D : va_G} {dA : Nat → ClassId} {cl : List vw_C} {tA : List (Nat × FieldType)} {tyf : Nat → Nat → FieldType} {B : Nat}
variable {kd : List aKd} {b : aSc} {P : Nat → Prop} {h0 : xH} {ρ : Nat → Int} {α τ : Nat → Option Nat} {σ : aS} {pc len : Nat} {lv : List (Nat × Value)} {st : List Value} {h : xH} {i : Instr} {l1 : List (Nat × aS)}
theorem ackObs {mp : aMp} {W : List aO} {RB : aRg} (hA : aSx kd B b P h0 ρ α τ σ lv st h) (h1 : W.all (fun w => (ackO σ.1 mp σ.2.2.2.2.1 w).isSome) = true) (h2 : aNod (W.map (fun w => (aF1 mp.2 w.1).getD 0)) = true) : aObs (aRB mp RB ρ) (aAB mp α) τ b B W h ∧ ∀ w ∈ W, ∃ k o, aF1 mp.2 w.1 = some (k + 1) ∧ aFo σ.2.2.2.2.1 k = some o ∧ aAB mp α w.1 = α k := by
  have key : ∀ w ∈ W, ∃ k o, aF1 mp.2 w.1 = some (k + 1) ∧ aFo σ.2.2.2.2.1 k = some o ∧ w.2.1 = o.2.1 ∧ ackL σ.1 mp w.2.2 o.2.2 = true ∧ aAB mp α w.1 = α k := by
    intro w hw
    have h3 := List.all_eq_true.mp h1 w hw
    obtain ⟨o, ho⟩ := Option.isSome_iff_exists.mp h3
    obtain ⟨k, g1, g2, g3, g4⟩ := ackO_ok ho
    exact ⟨k, o, g1, g2, g3, g4, by unfold aAB; rw [g1]⟩
  refine ⟨⟨fun w hw => ?_, ?_⟩, fun w hw => ?_⟩
  · obtain ⟨k, o, g1, g2, g3, g4, g5⟩ := key w hw
    obtain ⟨m1, m2⟩ := aFo_mem g2
    obtain ⟨a, V, e1, e2, e3, e4, e5⟩ := hA.1.2.2.2.1.1 o m1
    obtain ⟨l1, l2⟩ := ackL_at g4
    refine ⟨a, V, by rw [g5, ← m2]; exact e1, e2, e3, by rw [g3, l1]; exact e4, fun j u hu => ?_⟩
    obtain ⟨v, h5, h6⟩ := l2 j u hu
    exact ackV_ok hA.1.1 h6 (e5 j v h5)
  · refine List.Pairwise.imp_of_mem ?_ (aNod_pw h2)
    intro w w_q hw hw_q hne
    obtain ⟨k, o, g1, g2, -, -, g5⟩ := key w hw
    obtain ⟨k_q, o_q, g1_q, g2_q, -, -, g5_q⟩ := key w_q hw_q
    rw [g1, g1_q] at hne
    obtain ⟨m1, m2⟩ := aFo_mem g2
    obtain ⟨m1_q, m2_q⟩ := aFo_mem g2_q
    rw [g5, g5_q, ← m2, ← m2_q]
    refine aObs_ne hA.1.2.2.2.1 m1 m1_q ?_
    rw [m2, m2_q]
    intro q
    apply hne
    show k + 1 = k_q + 1
    rw [q]
  · obtain ⟨k, o, g1, g2, -, -, g5⟩ := key w hw
    exact ⟨k, o, g1, g2, g5⟩
/-- **a state that is a case of a pattern is one of it** -/
theorem ack_ok {mp : aMp} {W : aS} (hA : aSx kd B b P h0 ρ α τ σ lv st h) (hk : ack mp σ W = true) : aSx kd B b P h0 (aRB mp W.1 ρ) (aAB mp α) τ W lv st h ∧ σ.2.2.2.2.2.1 ≤ W.2.2.2.2.2.1 ∧ σ.2.2.2.2.2.2 ≤ W.2.2.2.2.2.2 := by
  simp only [ack, Bool.and_eq_true] at hk
  obtain ⟨⟨⟨⟨⟨⟨k1, k2⟩, k3⟩, k4⟩, k5⟩, k6⟩, k7⟩ := hk
  obtain ⟨o1, o2⟩ := ackObs (RB := W.1) hA k4 k5
  refine ⟨⟨⟨ackR_ok hA.1.1 k1, fun q hq => ?_, ackL_ok hA.1.1 k3 hA.1.2.2.1, o1, hA.1.2.2.2.2⟩, hA.2.1, fun w hw a ha => ?_, hA.2.2.2⟩, Nat.le_of_ble_eq_true k6, Nat.le_of_ble_eq_true k7⟩
  · have h1 := List.all_eq_true.mp k2 q hq
    split at h1
    · rename_i v hv
      obtain ⟨x, h2, h3⟩ := hA.1.2.1 _ (aget_mem hv)
      exact ⟨x, h2, ackV_ok hA.1.1 h1 h3⟩
    · cases h1
  · obtain ⟨k, o, g1, g2, g3⟩ := o2 w hw
    obtain ⟨m1, m2⟩ := aFo_mem g2
    rw [g3, ← m2] at ha
    exact hA.2.2.1 o m1 a ha
end XK
/-! finding the map: nothing rests on how it is found -/
def amV (mp : aMp) (w v : aV) : aMp :=
  if w.1 < 2 then (match aF1 mp.1 w.2.1 with | some _ => mp | none => ((w.2.1, v.2.1, v.2.2 - w.2.2) :: mp.1, mp.2))
  else if w.1 = 7 then (match aF1 mp.1 w.2.1 with | some _ => mp | none => ((w.2.1, v.2.1, 0) :: mp.1, mp.2))
  else if w.1 = 3 then mp else (match aF1 mp.2 w.2.1 with | some _ => mp | none => (mp.1, (w.2.1, if v.1 = 3 then 0 else v.2.1 + 1) :: mp.2))
def amL (mp : aMp) : List aV → List aV → aMp
  | w :: ws, v :: vs => amL (amV mp w v) ws vs
  | _, _ => mp
def amO (O : List aO) : Nat → aMp → List aO → aMp
  | _, mp, [] => mp
  | 0, mp, _ => mp
  | f + 1, mp, w :: ws => (match aF1 mp.2 w.1 with
    | some (k + 1) => (match aFo O k with | some o => amO O f (amL mp w.2.2 o.2.2) ws | none => amO O f mp ws)
    | _ => amO O f mp ws)
def amQ (L : List (Nat × aV)) (mp : aMp) : List (Nat × aV) → aMp
  | [] => mp
  | q :: qs => (match aget L q.1 with | some v => amQ L (amV mp q.2 v) qs | none => amQ L mp qs)
/-- the map, beginning with what is given -/
def amF (mp0 : aMp) (σ W : aS) : aMp :=
  let m1 := amL (amQ σ.2.2.1 mp0 W.2.2.1) W.2.2.2.1 σ.2.2.2.1
  let n := W.2.2.2.2.1.length
  amO σ.2.2.2.2.1 n (amO σ.2.2.2.2.1 n m1 W.2.2.2.2.1) W.2.2.2.2.1
