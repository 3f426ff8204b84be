/-! ===== the checker's steps: what a method's instruction makes of what is known ===== -/
def aSx (kd : List aKd) (B : Nat) (b : aSc) (P : Nat → Prop) (h0 : xH) (ρ : Nat → Int) (α τ : Nat → Option Nat) (σ : aS) (lv : List (Nat × Value)) (st : List Value) (h : xH) : Prop :=
  aSt kd B b ρ α τ σ lv st h ∧ (∀ a, ¬ P a → h a = h0 a ∧ τ a = none) ∧ (∀ o ∈ σ.2.2.2.2.1, ∀ a, α o.1 = some a → P a) ∧ ∀ a, h0 a = none → P a
def aCst : Value → Option aV
  | .int z => some (0, 0, z.toInt)
  | .long z => some (1, 0, z.toInt)
  | .null => some (3, 0, 0)
  | _ => none
def aRv (ρ : Nat → Int) (t : Nat) (r : aRes) (v : Value) : Prop := (t = 0 ∧ ∃ z : Int32, v = .int z ∧ aRm ρ r z.toInt) ∨ (t = 1 ∧ ∃ z : Int64, v = .long z ∧ aRm ρ r z.toInt)
def aop1 (R : aRg) (i : Instr) (a : aV) : Option (Nat × aRes) := match i with
  | .ineg => if a.1 = 0 then some (0, aItv 0 (-((aG R a.2.1).2 + a.2.2)) (-((aG R a.2.1).1 + a.2.2))) else none
  | .lneg => if a.1 = 1 then some (1, aItv 1 (-((aG R a.2.1).2 + a.2.2)) (-((aG R a.2.1).1 + a.2.2))) else none
  | .i2l => if a.1 = 0 then some (1, .inl a.2) else none
  | .l2i => if a.1 = 1 then some (0, aLin R 0 a.2.1 a.2.2) else none
  | .i2b => if a.1 = 0 then (if -128 ≤ (aG R a.2.1).1 + a.2.2 ∧ (aG R a.2.1).2 + a.2.2 ≤ 127 then some (0, .inl a.2) else some (0, .inr (-128, 127))) else none
  | _ => none
def aop2_q (R : aRg) (i : Instr) (a b : aV) : Option (Nat × aRes) := match i with
  | .iadd => if a.1 = 0 ∧ b.1 = 0 then some (0, aAdd R 0 a.2 b.2) else none
  | .isub => if a.1 = 0 ∧ b.1 = 0 then some (0, aSubt R 0 a.2 b.2) else none
  | .imul => if a.1 = 0 ∧ b.1 = 0 then some (0, aMul R 0 a.2 b.2) else none
  | .idiv => if a.1 = 0 ∧ b.1 = 0 then (aDiv R 0 a.2 b.2).map (fun r => (0, r)) else none
  | .irem => if a.1 = 0 ∧ b.1 = 0 then (aRem R a.2 b.2).map (fun r => (0, r)) else none
  | .iand => if a.1 = 0 ∧ b.1 = 0 then some (0, aAnd R a.2 b.2) else none
  | .ishl => if a.1 = 0 ∧ b.1 = 0 then some (0, aFull 0) else none
  | .ishr => if a.1 = 0 ∧ b.1 = 0 then some (0, aFull 0) else none
  | .iushr => if a.1 = 0 ∧ b.1 = 0 then some (0, aFull 0) else none
  | .ior => if a.1 = 0 ∧ b.1 = 0 then some (0, aFull 0) else none
  | .ixor => if a.1 = 0 ∧ b.1 = 0 then some (0, aFull 0) else none
  | .ladd => if a.1 = 1 ∧ b.1 = 1 then some (1, aAdd R 1 a.2 b.2) else none
  | .lsub => if a.1 = 1 ∧ b.1 = 1 then some (1, aSubt R 1 a.2 b.2) else none
  | .lmul => if a.1 = 1 ∧ b.1 = 1 then some (1, aMul R 1 a.2 b.2) else none
  | .ldiv => if a.1 = 1 ∧ b.1 = 1 then (aDiv R 1 a.2 b.2).map (fun r => (1, r)) else none
  | .lrem => if a.1 = 1 ∧ b.1 = 1 then (aDiv R 1 a.2 b.2).map (fun _ => (1, aFull 1)) else none
  | .land => if a.1 = 1 ∧ b.1 = 1 then some (1, aFull 1) else none
  | .lor => if a.1 = 1 ∧ b.1 = 1 then some (1, aFull 1) else none
  | .lxor => if a.1 = 1 ∧ b.1 = 1 then some (1, aFull 1) else none
  | .lshl => if a.1 = 1 ∧ b.1 = 0 then some (1, aFull 1) else none
  | .lshr => if a.1 = 1 ∧ b.1 = 0 then some (1, aFull 1) else none
  | .lushr => if a.1 = 1 ∧ b.1 = 0 then some (1, aFull 1) else none
  | .lcmp => if a.1 = 1 ∧ b.1 = 1 then some (0, aCmp R a.2 b.2) else none
  | _ => none
def aConc (v : aV) : Option Value := match v.1 with
  | 0 => some (.int (Int32.ofInt v.2.2))
  | 1 => some (.long (Int64.ofInt v.2.2))
  | _ => none
def aFold (R : aRg) (i : Instr) (a b : aV) : Option (Nat × aRes) := if aZ R = true ∧ a.2.1 = 0 ∧ b.2.1 = 0 then (match aConc a, aConc b with
  | some x, some y => (match xop2 i x y with
    | some (.int z) => some (0, .inl (0, z.toInt))
    | some (.long z) => some (1, .inl (0, z.toInt))
    | _ => none)
  | _, _ => none) else none
def aop2 (R : aRg) (i : Instr) (a b : aV) : Option (Nat × aRes) := match aFold R i a b with
  | some r => some r
  | none => aop2_q R i a b
theorem aConc_ok {ρ : Nat → Int} {α τ : Nat → Option Nat} {b : aSc} {v : aV} {x y : Value} (h0 : ρ 0 = 0) (hv : v.2.1 = 0) (h : aM ρ α τ b v x) (hc : aConc v = some y) : y = x := by
  obtain ⟨t, k, o⟩ := v
  dsimp only at hv
  subst hv
  unfold aConc at hc
  dsimp only at hc
  split at hc
  · cases hc
    obtain ⟨z, rfl, hz⟩ := h
    dsimp only at hz
    rw [h0, Int.zero_add] at hz
    rw [← hz, Int32.ofInt_toInt]
  · cases hc
    obtain ⟨z, rfl, hz⟩ := h
    dsimp only at hz
    rw [h0, Int.zero_add] at hz
    rw [← hz, Int64.ofInt_toInt]
  · cases hc
theorem aFold_ok {R : aRg} {ρ : Nat → Int} {α τ : Nat → Option Nat} {b : aSc} {i : Instr} {a c : aV} {x y : Value} {t : Nat} {r : aRes} (hR : aOkR R ρ) (h : aFold R i a c = some (t, r)) (ha : aM ρ α τ b a x) (hc : aM ρ α τ b c y) : ∃ v, xop2 i x y = some v ∧ aRv ρ t r v := by
  unfold aFold at h
  split at h
  · rename_i hz
    have h0 := aZ_ok hz.1 hR
    split at h
    · rename_i x_q y_q hx hy
      have e1 := aConc_ok h0 hz.2.1 ha hx
      have e2 := aConc_ok h0 hz.2.2 hc hy
      subst e1
      subst e2
      split at h
      · rename_i z hz2
        cases h
        exact ⟨_, hz2, Or.inl ⟨rfl, z, rfl, by show _ = _; rw [h0]; simp⟩⟩
      · rename_i z hz2
        cases h
        exact ⟨_, hz2, Or.inr ⟨rfl, z, rfl, by show _ = _; rw [h0]; simp⟩⟩
      · cases h
    · cases h
  · cases h
theorem aM_int {ρ : Nat → Int} {α τ : Nat → Option Nat} {b : aSc} {v : aV} {x : Value} (h : aM ρ α τ b v x) (ht : v.1 = 0) : ∃ z : Int32, x = .int z ∧ z.toInt = ρ v.2.1 + v.2.2 := by
  obtain ⟨t, k, o⟩ := v
  dsimp only at ht
  subst ht
  exact h
theorem aM_lng {ρ : Nat → Int} {α τ : Nat → Option Nat} {b : aSc} {v : aV} {x : Value} (h : aM ρ α τ b v x) (ht : v.1 = 1) : ∃ z : Int64, x = .long z ∧ z.toInt = ρ v.2.1 + v.2.2 := by
  obtain ⟨t, k, o⟩ := v
  dsimp only at ht
  subst ht
  exact h
theorem aop1_ok {R : aRg} {ρ : Nat → Int} {α τ : Nat → Option Nat} {b : aSc} {i : Instr} {a : aV} {x : Value} {t : Nat} {r : aRes} (hR : aOkR R ρ) (h : aop1 R i a = some (t, r)) (ha : aM ρ α τ b a x) : ∃ y, xop1 i x = some y ∧ aRv ρ t r y := by
  have hk := hR a.2.1
  unfold aop1 at h
  split at h
  · split at h
    · rename_i ht
      cases h
      obtain ⟨z, rfl, hz⟩ := aM_int ha ht
      exact ⟨_, rfl, Or.inl ⟨rfl, _, rfl, aItv0 (Int32.toInt_neg z) (by omega) (by omega)⟩⟩
    · cases h
  · split at h
    · rename_i ht
      cases h
      obtain ⟨z, rfl, hz⟩ := aM_lng ha ht
      exact ⟨_, rfl, Or.inr ⟨rfl, _, rfl, aItv1 (Int64.toInt_neg z) (by omega) (by omega)⟩⟩
    · cases h
  · split at h
    · rename_i ht
      cases h
      obtain ⟨z, rfl, hz⟩ := aM_int ha ht
      exact ⟨_, rfl, Or.inr ⟨rfl, _, rfl, by rw [Int32.toInt_toInt64]; exact hz⟩⟩
    · cases h
  · split at h
    · rename_i ht
      cases h
      obtain ⟨z, rfl, hz⟩ := aM_lng ha ht
      exact ⟨_, rfl, Or.inl ⟨rfl, _, rfl, aLin0 hR (Int64.toInt_toInt32 z) hz⟩⟩
    · cases h
  · split at h
    · rename_i ht
      obtain ⟨z, rfl, hz⟩ := aM_int ha ht
      have e1 : z.toInt8.toInt32.toInt = z.toInt.bmod (2 ^ 8) := by rw [Int8.toInt_toInt32, Int32.toInt_toInt8]
      split at h
      · rename_i hb
        cases h
        refine ⟨_, rfl, Or.inl ⟨rfl, _, rfl, ?_⟩⟩
        show _ = _
        rw [e1, Int.bmod_eq_of_le (by omega) (by omega)]
        exact hz
      · cases h
        refine ⟨_, rfl, Or.inl ⟨rfl, _, rfl, ?_⟩⟩
        show _ ≤ _ ∧ _ ≤ _
        have h1 := z.toInt8.le_toInt
        have h2 := z.toInt8.toInt_lt
        rw [Int8.toInt_toInt32]
        omega
    · cases h
  · cases h
theorem aop2_ok_q {R : aRg} {ρ : Nat → Int} {α τ : Nat → Option Nat} {b : aSc} {i : Instr} {a c : aV} {x y : Value} {t : Nat} {r : aRes} (hR : aOkR R ρ) (h : aop2_q R i a c = some (t, r)) (ha : aM ρ α τ b a x) (hc : aM ρ α τ b c y) : ∃ v, xop2 i x y = some v ∧ aRv ρ t r v := by
  have two : a.1 = 0 ∧ c.1 = 0 → ∃ z w : Int32, x = .int z ∧ y = .int w ∧ z.toInt = ρ a.2.1 + a.2.2 ∧ w.toInt = ρ c.2.1 + c.2.2 := fun ht => by
    obtain ⟨z, h1, h2⟩ := aM_int ha ht.1
    obtain ⟨w, h3, h4⟩ := aM_int hc ht.2
    exact ⟨z, w, h1, h3, h2, h4⟩
  have twl : a.1 = 1 ∧ c.1 = 1 → ∃ z w : Int64, x = .long z ∧ y = .long w ∧ z.toInt = ρ a.2.1 + a.2.2 ∧ w.toInt = ρ c.2.1 + c.2.2 := fun ht => by
    obtain ⟨z, h1, h2⟩ := aM_lng ha ht.1
    obtain ⟨w, h3, h4⟩ := aM_lng hc ht.2
    exact ⟨z, w, h1, h3, h2, h4⟩
  have tws : a.1 = 1 ∧ c.1 = 0 → ∃ (z : Int64) (w : Int32), x = .long z ∧ y = .int w := fun ht => by
    obtain ⟨z, h1, h2⟩ := aM_lng ha ht.1
    obtain ⟨w, h3, h4⟩ := aM_int hc ht.2
    exact ⟨z, w, h1, h3⟩
  unfold aop2_q at h
  split at h
  case h_24 => cases h
  all_goals
    split at h
    case isFalse => cases h
  all_goals (rename_i ht)
  · cases h; obtain ⟨z, w, rfl, rfl, hz, hw⟩ := two ht; exact ⟨_, rfl, Or.inl ⟨rfl, _, rfl, aAdd0 hR hz hw⟩⟩
  · cases h; obtain ⟨z, w, rfl, rfl, hz, hw⟩ := two ht; exact ⟨_, rfl, Or.inl ⟨rfl, _, rfl, aSub0 hR hz hw⟩⟩
  · cases h; obtain ⟨z, w, rfl, rfl, hz, hw⟩ := two ht; exact ⟨_, rfl, Or.inl ⟨rfl, _, rfl, aMul0 hR hz hw⟩⟩
  · obtain ⟨z, w, rfl, rfl, hz, hw⟩ := two ht
    cases hd : aDiv R 0 a.2 c.2 with
    | none => rw [hd] at h; cases h
    | some r_q =>
      rw [hd] at h
      cases h
      obtain ⟨g1, g2⟩ := aDiv0 hR hd hz hw
      exact ⟨.int (z / w), by simp only [xop2]; rw [if_neg g1], Or.inl ⟨rfl, _, rfl, g2⟩⟩
  · obtain ⟨z, w, rfl, rfl, hz, hw⟩ := two ht
    cases hd : aRem R a.2 c.2 with
    | none => rw [hd] at h; cases h
    | some r_q =>
      rw [hd] at h
      cases h
      obtain ⟨g1, g2⟩ := aRem0 hR hd hz hw
      exact ⟨.int (z - z / w * w), by simp only [xop2]; rw [if_neg g1], Or.inl ⟨rfl, _, rfl, g2⟩⟩
  · cases h; obtain ⟨z, w, rfl, rfl, hz, hw⟩ := two ht; exact ⟨_, rfl, Or.inl ⟨rfl, _, rfl, aAnd0 hR hw⟩⟩
  · cases h; obtain ⟨z, w, rfl, rfl, hz, hw⟩ := two ht; exact ⟨_, rfl, Or.inl ⟨rfl, _, rfl, aFull0 _⟩⟩
  · cases h; obtain ⟨z, w, rfl, rfl, hz, hw⟩ := two ht; exact ⟨_, rfl, Or.inl ⟨rfl, _, rfl, aFull0 _⟩⟩
  · cases h; obtain ⟨z, w, rfl, rfl, hz, hw⟩ := two ht; exact ⟨_, rfl, Or.inl ⟨rfl, _, rfl, aFull0 _⟩⟩
  · cases h; obtain ⟨z, w, rfl, rfl, hz, hw⟩ := two ht; exact ⟨_, rfl, Or.inl ⟨rfl, _, rfl, aFull0 _⟩⟩
  · cases h; obtain ⟨z, w, rfl, rfl, hz, hw⟩ := two ht; exact ⟨_, rfl, Or.inl ⟨rfl, _, rfl, aFull0 _⟩⟩
  · cases h; obtain ⟨z, w, rfl, rfl, hz, hw⟩ := twl ht; exact ⟨_, rfl, Or.inr ⟨rfl, _, rfl, aAdd1 hR hz hw⟩⟩
  · cases h; obtain ⟨z, w, rfl, rfl, hz, hw⟩ := twl ht; exact ⟨_, rfl, Or.inr ⟨rfl, _, rfl, aSub1 hR hz hw⟩⟩
  · cases h; obtain ⟨z, w, rfl, rfl, hz, hw⟩ := twl ht; exact ⟨_, rfl, Or.inr ⟨rfl, _, rfl, aMul1 hR hz hw⟩⟩
  · obtain ⟨z, w, rfl, rfl, hz, hw⟩ := twl ht
    cases hd : aDiv R 1 a.2 c.2 with
    | none => rw [hd] at h; cases h
    | some r_q =>
      rw [hd] at h
      cases h
      obtain ⟨g1, g2⟩ := aDiv1 hR hd hz hw
      exact ⟨.long (z / w), by simp only [xop2]; rw [if_neg g1], Or.inr ⟨rfl, _, rfl, g2⟩⟩
  · obtain ⟨z, w, rfl, rfl, hz, hw⟩ := twl ht
    cases hd : aDiv R 1 a.2 c.2 with
    | none => rw [hd] at h; cases h
    | some r_q =>
      rw [hd] at h
      cases h
      obtain ⟨g1, g2⟩ := aDiv1 hR hd hz hw
      exact ⟨.long (z - z / w * w), by simp only [xop2]; rw [if_neg g1], Or.inr ⟨rfl, _, rfl, aFull1 _⟩⟩
  · cases h; obtain ⟨z, w, rfl, rfl, hz, hw⟩ := twl ht; exact ⟨_, rfl, Or.inr ⟨rfl, _, rfl, aFull1 _⟩⟩
  · cases h; obtain ⟨z, w, rfl, rfl, hz, hw⟩ := twl ht; exact ⟨_, rfl, Or.inr ⟨rfl, _, rfl, aFull1 _⟩⟩
  · cases h; obtain ⟨z, w, rfl, rfl, hz, hw⟩ := twl ht; exact ⟨_, rfl, Or.inr ⟨rfl, _, rfl, aFull1 _⟩⟩
  · cases h; obtain ⟨z, w, rfl, rfl⟩ := tws ht; exact ⟨_, rfl, Or.inr ⟨rfl, _, rfl, aFull1 _⟩⟩
  · cases h; obtain ⟨z, w, rfl, rfl⟩ := tws ht; exact ⟨_, rfl, Or.inr ⟨rfl, _, rfl, aFull1 _⟩⟩
  · cases h; obtain ⟨z, w, rfl, rfl⟩ := tws ht; exact ⟨_, rfl, Or.inr ⟨rfl, _, rfl, aFull1 _⟩⟩
  · cases h; obtain ⟨z, w, rfl, rfl, hz, hw⟩ := twl ht; exact ⟨_, rfl, Or.inl ⟨rfl, _, rfl, aCmp0 hR hz hw⟩⟩
/-- a result comes onto the stack -/
def aPu (σ : aS) (S : List aV) (t : Nat) (r : aRes) : Option aS := match r with
  | .inl q => some (σ.1, σ.2.1, σ.2.2.1, (t, q.1, q.2) :: S, σ.2.2.2.2)
  | .inr q => if q.1 = q.2 ∧ aZ σ.1 = true then some (σ.1, σ.2.1, σ.2.2.1, (t, 0, q.1) :: S, σ.2.2.2.2)
      else if aWf (σ.1, σ.2.1, σ.2.2.1, S, σ.2.2.2.2) = true then some (σ.1 ++ [q], σ.2.1, σ.2.2.1, (t, σ.1.length, 0) :: S, σ.2.2.2.2) else none
theorem aop2_ok {R : aRg} {ρ : Nat → Int} {α τ : Nat → Option Nat} {b : aSc} {i : Instr} {a c : aV} {x y : Value} {t : Nat} {r : aRes} (hR : aOkR R ρ) (h : aop2 R i a c = some (t, r)) (ha : aM ρ α τ b a x) (hc : aM ρ α τ b c y) : ∃ v, xop2 i x y = some v ∧ aRv ρ t r v := by
  unfold aop2 at h
  split at h
  · rename_i q hq
    cases h
    exact aFold_ok hR hq ha hc
  · exact aop2_ok_q hR h ha hc
theorem aWf_parts {σ : aS} (h : aWf σ = true) : 0 < σ.1.length ∧ σ.2.2.1.all (fun q => aWv σ.1.length σ.2.1 q.2) = true ∧ σ.2.2.2.1.all (aWv σ.1.length σ.2.1) = true ∧ σ.2.2.2.2.1.all (fun o => Nat.blt o.1 σ.2.1 && o.2.2.all (aWv σ.1.length σ.2.1)) = true := by
  simp only [aWf, Bool.and_eq_true] at h
  exact ⟨(Nat.blt_eq).mp h.1.1.1, h.1.1.2, h.1.2, h.2⟩
section XP
variable {kd : List aKd} {B : Nat} {b : aSc} {P : Nat → Prop} {h0 : xH} {ρ : Nat → Int} {α τ : Nat → Option Nat} {σ : aS} {lv : List (Nat × Value)} {st : List Value} {h : xH}
/-- other numbers and references, those in use as they were; more cells of kinds -/
theorem aSx_to {ρ_q : Nat → Int} {α_q : Nat → Option Nat} {R_q : aRg} {m_q : Nat} (hw : aWf σ = true) (hA : aSx kd B b P h0 ρ α τ σ lv st h) (hs : aSame σ.1.length σ.2.1 ρ ρ_q α α_q) (hR : aOkR R_q ρ_q) : aSx kd B b P h0 ρ_q α_q τ (R_q, m_q, σ.2.2) lv st h := by
  obtain ⟨⟨g1, g2, g3, g4, g5⟩, g6, g7, g8⟩ := hA
  obtain ⟨w0, w1, w2, w3⟩ := aWf_parts hw
  refine ⟨⟨hR, aLoc_to hs aSub_rf w1 g2, aStk_to hs aSub_rf w2 g3, aObs_to hs aSub_rf (aObs_null g4) w3 g4, g5⟩, g6, fun o ho a ha => ?_, g8⟩
  have := List.all_eq_true.mp w3 o ho
  simp only [Bool.and_eq_true] at this
  rw [hs.2 _ ((Nat.blt_eq).mp this.1)] at ha
  exact g7 o ho a ha
theorem aPu_ok {S : List aV} {t : Nat} {r : aRes} {σ_q : aS} {v : Value} (hA : aSx kd B b P h0 ρ α τ (σ.1, σ.2.1, σ.2.2.1, S, σ.2.2.2.2) lv st h) (hp : aPu σ S t r = some σ_q) (hv : aRv ρ t r v) :
    ∃ ρ_q, aSame σ.1.length σ.2.1 ρ ρ_q α α ∧ aSx kd B b P h0 ρ_q α τ σ_q lv (v :: st) h ∧ σ_q.2.2.2.2.2 = σ.2.2.2.2.2 := by
  have hM : ∀ (ρ1 : Nat → Int) (k : Nat) (o : Int), ((t = 0 ∧ ∃ z : Int32, v = .int z ∧ z.toInt = ρ1 k + o) ∨ (t = 1 ∧ ∃ z : Int64, v = .long z ∧ z.toInt = ρ1 k + o)) → aM ρ1 α τ b (t, k, o) v := by
    intro ρ1 k o h1
    rcases h1 with ⟨rfl, z, h1, h2⟩ | ⟨rfl, z, h1, h2⟩
    · exact ⟨z, h1, h2⟩
    · exact ⟨z, h1, h2⟩
  unfold aPu at hp
  cases r with
  | inl q =>
    cases hp
    refine ⟨ρ, aSame_rf, ⟨⟨hA.1.1, hA.1.2.1, ⟨hM ρ q.1 q.2 ?_, hA.1.2.2.1⟩, hA.1.2.2.2⟩, hA.2⟩, rfl⟩
    rcases hv with ⟨h1, z, h2, h3⟩ | ⟨h1, z, h2, h3⟩
    · exact Or.inl ⟨h1, z, h2, h3⟩
    · exact Or.inr ⟨h1, z, h2, h3⟩
  | inr q =>
    dsimp only at hp
    split at hp
    · rename_i hc
      cases hp
      have hz := aZ_ok hc.2 hA.1.1
      refine ⟨ρ, aSame_rf, ⟨⟨hA.1.1, hA.1.2.1, ⟨hM ρ 0 q.1 ?_, hA.1.2.2.1⟩, hA.1.2.2.2⟩, hA.2⟩, rfl⟩
      rcases hv with ⟨h1, z, h2, h3, h4⟩ | ⟨h1, z, h2, h3, h4⟩
      · exact Or.inl ⟨h1, z, h2, by rw [hz]; have := hc.1; omega⟩
      · exact Or.inr ⟨h1, z, h2, by rw [hz]; have := hc.1; omega⟩
    · split at hp
      · rename_i hw
        cases hp
        have key : ∃ w : Int, q.1 ≤ w ∧ w ≤ q.2 ∧ ((t = 0 ∧ ∃ z : Int32, v = .int z ∧ z.toInt = w) ∨ (t = 1 ∧ ∃ z : Int64, v = .long z ∧ z.toInt = w)) := by
          rcases hv with ⟨h1, z, h2, h3, h4⟩ | ⟨h1, z, h2, h3, h4⟩
          · exact ⟨z.toInt, h3, h4, Or.inl ⟨h1, z, h2, rfl⟩⟩
          · exact ⟨z.toInt, h3, h4, Or.inr ⟨h1, z, h2, rfl⟩⟩
        obtain ⟨w, k1, k2, k3⟩ := key
        have hs : aSame σ.1.length σ.2.1 ρ (aUp ρ σ.1.length w) α α := ⟨fun k hk => aUp_ne _ _ (Nat.ne_of_lt hk), fun _ _ => rfl⟩
        have hA_q := aSx_to (R_q := σ.1 ++ [q]) (m_q := σ.2.1) hw hA hs (aOkR_new hA.1.1 k1 k2)
        refine ⟨_, hs, ⟨⟨hA_q.1.1, hA_q.1.2.1, ⟨hM _ σ.1.length 0 ?_, hA_q.1.2.2.1⟩, hA_q.1.2.2.2⟩, hA_q.2⟩, rfl⟩
        rw [aUp_self, Int.add_zero]
        exact k3
      · cases hp
end XP
