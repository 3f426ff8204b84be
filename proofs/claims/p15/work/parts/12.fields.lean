/-! ===== the checker's steps on fields, arrays and new cells ===== -/
/-- a method's tables: fields (index, class, field, final), field types, classes made (index, class, fields), classes of arrays made (index, kind of cell), where arrays are made of which kind, where what lies on top is published, int constants, long constants, is it a constructor -/
abbrev aTb : Type := List (Nat × Nat × Nat × Nat) × List (List Nat) × List (Nat × Nat × Nat) × List (Nat × Nat) × List (Nat × Int) × List (Nat × Int) × List (Nat × Int) × List (Nat × Int) × Bool
def aTc (tc : List (List Nat)) (ci f : Nat) : Nat := (tc.getD ci []).getD f 9
/-- a type by its number -/
def aTy (k : Nat) (ty : FieldType) : Prop := (k = 0 → ty = .int) ∧ (k = 1 → ty = .long) ∧ (k = 2 → ty = .boolean) ∧ (k = 3 → ty = .byte) ∧ (k = 4 → (∃ E, ty = .object E) ∨ ∃ t, ty = .array t)
/-- may v be stored where the type is k -/
def aTok (R : aRg) (k : Nat) (v : aV) : Bool := match k with
  | 0 => decide (v.1 = 0)
  | 1 => decide (v.1 = 1)
  | 2 => decide (v.1 = 0) && aIn R v 0 1
  | 3 => decide (v.1 = 0) && aIn R v (-128) 127
  | 4 => decide (1 < v.1)
  | _ => false
def aDf (k : Nat) : aV := if k = 1 then (1, 0, 0) else if k = 4 then (3, 0, 0) else (0, 0, 0)
theorem aTok_ok {R : aRg} {ρ : Nat → Int} {α τ : Nat → Option Nat} {b : aSc} {v : aV} {x : Value} {k : Nat} {ty : FieldType} (hR : aOkR R ρ) (hv : aM ρ α τ b v x) (hk : aTy k ty) (h : aTok R k v = true) : narrow ty x = x ∧ fits ty x = true := by
  obtain ⟨k0, k1, k2, k3, k4⟩ := hk
  unfold aTok at h
  split at h
  · simp only [decide_eq_true_eq] at h
    obtain ⟨z, rfl, hz⟩ := aM_int hv h
    rw [k0 rfl]
    exact ⟨rfl, rfl⟩
  · simp only [decide_eq_true_eq] at h
    obtain ⟨z, rfl, hz⟩ := aM_lng hv h
    rw [k1 rfl]
    exact ⟨rfl, rfl⟩
  · simp only [Bool.and_eq_true, decide_eq_true_eq] at h
    obtain ⟨z, rfl, hz⟩ := aM_int hv h.1
    have h2 := aIn_ok hR h.2
    rw [← hz] at h2
    have h3 : z = 0 ∨ z = 1 := by
      have e0 : (0 : Int32).toInt = 0 := by decide
      have e1 : (1 : Int32).toInt = 1 := by decide
      rcases (show z.toInt = 0 ∨ z.toInt = 1 by omega) with h | h
      · exact Or.inl (Int32.toInt_inj.mp (h.trans e0.symm))
      · exact Or.inr (Int32.toInt_inj.mp (h.trans e1.symm))
    rw [k2 rfl]
    rcases h3 with rfl | rfl <;> exact ⟨by decide, by decide⟩
  · simp only [Bool.and_eq_true, decide_eq_true_eq] at h
    obtain ⟨z, rfl, hz⟩ := aM_int hv h.1
    have h2 := aIn_ok hR h.2
    rw [← hz] at h2
    rw [k3 rfl]
    have e1 : z.toInt8.toInt32 = z := by
      apply Int32.toInt_inj.mp
      rw [Int8.toInt_toInt32, Int32.toInt_toInt8, Int.bmod_eq_of_le (by omega) (by omega)]
    refine ⟨by show Value.int _ = _; rw [e1], ?_⟩
    have a1 : (-128 : Int32).toInt = -128 := by decide
    have a2 : (127 : Int32).toInt = 127 := by decide
    show (decide (-128 ≤ z) && decide (z ≤ 127)) = true
    simp only [Bool.and_eq_true, decide_eq_true_eq, Int32.le_iff_toInt_le, a1, a2]
    omega
  · simp only [decide_eq_true_eq] at h
    have hr : x = .null ∨ ∃ a, x = .ref a := by
      obtain ⟨t, k, o⟩ := v
      unfold aM at hv
      dsimp only at hv h
      split at hv
      · exact absurd h (by decide)
      · exact absurd h (by decide)
      · obtain ⟨a, h1, -⟩ := hv; exact Or.inr ⟨a, h1⟩
      · exact Or.inl hv
      · obtain ⟨a, h1, -⟩ := hv; exact Or.inr ⟨a, h1⟩
      · rcases hv with ⟨h1, -⟩ | ⟨a, h1, -⟩
        · exact Or.inl h1
        · exact Or.inr ⟨a, h1⟩
      · exact Or.inr ⟨b.1, hv.1⟩
      · exact Or.inr hv
      · exact hv.elim
    rcases k4 rfl with ⟨E, rfl⟩ | ⟨t, rfl⟩ <;> rcases hr with rfl | ⟨a, rfl⟩ <;> exact ⟨rfl, rfl⟩
  · cases h
/-- the tables are true -/
def aGd (own : String) (Ts : List Cond) (cl : List vw_C) (tA : List (Nat × FieldType)) (tyf : Nat → Nat → FieldType) (meth : Method) (s : State) (b : aSc) (M : aTb) : Prop :=
  (∀ q ∈ M.1, ∃ r, cl[q.2.1]? = some r ∧ q.2.2.1 < r.2.2 ∧ Cond.fieldLink own q.1 (r.2.1 q.2.2.1).1 (r.2.1 q.2.2.1).2.1 (r.2.1 q.2.2.1).2.2.1 ∈ Ts ∧ (q.2.2.2 = 0 → (r.2.1 q.2.2.1).2.2.2 = false) ∧ (q.2.2.2 = 1 → (r.2.1 q.2.2.1).2.2.2 = true ∧ (r.2.1 q.2.2.1).1 = own)) ∧
  (∀ ci f, aTy (aTc M.2.1 ci f) (tyf ci f)) ∧
  (∀ q ∈ M.2.2.1, ∃ r, cl[q.2.1]? = some r ∧ r.2.2 = q.2.2 ∧ Cond.classLink own q.1 r.1 ∈ Ts ∧ Cond.instantiable r.1 r.2.2 ∈ Ts ∧ Cond.initialized r.1 ∈ Ts) ∧
  (∀ q ∈ M.2.2.2.1, ∃ E, (q.2, FieldType.object E) ∈ tA ∧ Cond.classLink own q.1 E ∈ Ts ∧ va_AO E s) ∧
  (tA.take 4 = [(1000, .int), (1001, .long), (1002, .byte), (1003, .boolean)] ∧ Cond.arrayClass .int ∈ Ts ∧ Cond.arrayClass .long ∈ Ts ∧ Cond.arrayClass .byte ∈ Ts ∧ Cond.arrayClass .boolean ∈ Ts ∧ ∀ t ty, (t, ty) ∈ tA → 2000 ≤ t → ∃ r, cl[t - 2000]? = some r ∧ ty = .object r.1) ∧
  (∀ q ∈ M.2.2.2.2.2.2.1, ∃ z : Int32, Cond.constant own q.1 z ∈ Ts ∧ z.toInt = q.2) ∧ (∀ q ∈ M.2.2.2.2.2.2.2.1, ∃ z : Int64, Cond.constantLong own q.1 z ∈ Ts ∧ z.toInt = q.2) ∧
  (M.2.2.2.2.2.2.2.2 = true → meth.name = "<init>") ∧ b.2.1 < 2147483648
def aF1 {β : Type} (l : List (Nat × β)) (k : Nat) : Option β := (l.find? (fun q => q.1 == k)).map (fun q => q.2)
theorem aF1_mem {β : Type} {l : List (Nat × β)} {k : Nat} {v : β} (h : aF1 l k = some v) : (k, v) ∈ l := by
  unfold aF1 at h
  cases e : l.find? (fun q => q.1 == k) with
  | none => rw [e] at h; cases h
  | some q =>
    rw [e] at h
    have h1 := List.mem_of_find?_eq_some e
    have h2 : (q.1 == k) = true := by simpa using List.find?_some e
    have h3 : q.1 = k := by simpa using h2
    have h4 : q.2 = v := by simpa using h
    have h5 : q = (k, v) := Prod.ext h3 h4
    rw [h5] at h1
    exact h1
def aWS (σ : aS) (S : List aV) : aS := (σ.1, σ.2.1, σ.2.2.1, S, σ.2.2.2.2)
/-- constants of the pool -/
def asK (M : aTb) (σ : aS) (i : Instr) (len pc : Nat) : Option (List (Nat × aS)) :=
  if aZ σ.1 = true then
    match i with
    | .ldc ix => (match aF1 M.2.2.2.2.2.2.1 ix with | some z => if len = 2 then some [(pc + 2, aWS σ ((0, 0, z) :: σ.2.2.2.1))] else none | none => none)
    | .ldc_w ix => (match aF1 M.2.2.2.2.2.2.1 ix with | some z => if len = 3 then some [(pc + 3, aWS σ ((0, 0, z) :: σ.2.2.2.1))] else none | none => none)
    | .ldc2_w ix => (match aF1 M.2.2.2.2.2.2.2.1 ix with | some z => if len = 3 then some [(pc + 3, aWS σ ((1, 0, z) :: σ.2.2.2.1))] else none | none => none)
    | _ => none
  else none
def asG (kd : List aKd) (M : aTb) (σ : aS) (i : Instr) (len pc : Nat) : Option (List (Nat × aS)) := match i with
  | .getfield idx => (match aF1 M.1 idx, σ.2.2.2.1 with
    | some q, r :: S => if len = 3 then
        (if r.1 = 2 then (match aFo σ.2.2.2.2.1 r.2.1 with
          | some o => if o.2.1 = q.1 then (match o.2.2[q.2.1]? with | some v => some [(pc + 3, aWS σ (v :: S))] | none => none) else none
          | none => none)
        else if r.1 = 4 then (match kd[r.2.2.toNat]? with
          | some K => if K.1 = q.1 ∧ q.2.1 < K.2.1 then (aPf σ S (aKf K q.2.1)).map (fun σ_q => [(pc + 3, σ_q)]) else none
          | none => none)
        else none) else none
    | _, _ => none)
  | _ => none
def asP (kd : List aKd) (M : aTb) (σ : aS) (i : Instr) (len pc : Nat) : Option (List (Nat × aS)) := match i with
  | .putfield idx => (match aF1 M.1 idx, σ.2.2.2.1 with
    | some q, v :: r :: S => if len = 3 ∧ aTok σ.1 (aTc M.2.1 q.1 q.2.1) v = true ∧ (q.2.2 = 0 ∨ (q.2.2 = 1 ∧ M.2.2.2.2.2.2.2.2 = true)) then
        (if r.1 = 2 then (match aFo σ.2.2.2.2.1 r.2.1 with
          | some o => if o.2.1 = q.1 then some [(pc + 3, (σ.1, σ.2.1, σ.2.2.1, S, aSo σ.2.2.2.2.1 r.2.1 q.2.1 v, σ.2.2.2.2.2))] else none
          | none => none)
        else if r.1 = 4 then (match kd[r.2.2.toNat]? with
          | some K => if K.1 = q.1 ∧ q.2.1 < K.2.1 ∧ aInF σ.1 v (aKf K q.2.1) = true then some [(pc + 3, aWS σ S)] else none
          | none => none)
        else none) else none
    | _, _ => none)
  | _ => none
/-- which kinds of cells an array instruction works on -/
def aAt (i : Instr) (t : Nat) : Bool := match i with
  | .iaload => decide (t = 1000)
  | .laload => decide (t = 1001)
  | .baload => decide (t = 1002) || decide (t = 1003)
  | .aaload => decide (2000 ≤ t)
  | .iastore => decide (t = 1000)
  | .lastore => decide (t = 1001)
  | .bastore => decide (t = 1002) || decide (t = 1003)
  | _ => false
def aLd (i : Instr) : Bool := match i with
  | .iaload => true
  | .laload => true
  | .baload => true
  | .aaload => true
  | _ => false
def aSr (i : Instr) : Bool := match i with
  | .iastore => true
  | .lastore => true
  | .bastore => true
  | _ => false
/-- the type's number of an array's elements -/
def aEt (t : Nat) : Nat := if t = 1000 then 0 else if t = 1001 then 1 else if t = 1002 then 3 else if t = 1003 then 2 else 9
def asA (kd : List aKd) (σ : aS) (i : Instr) (len pc : Nat) : Option (List (Nat × aS)) := match σ.2.2.2.1 with
  | ix :: r :: S => if len = 1 ∧ ix.1 = 0 ∧ aLd i = true then
      (if r.1 = 4 then (match kd[r.2.2.toNat]? with
        | some K => if aAt i K.1 = true ∧ aIn σ.1 ix 0 ((K.2.1 : Int) - 1) = true then (aPf σ S (aKf K 0)).map (fun σ_q => [(pc + 1, σ_q)]) else none
        | none => none)
      else if r.1 = 2 then (match aFo σ.2.2.2.2.1 r.2.1 with
        | some o => if aAt i o.2.1 = true ∧ o.2.1 < 2000 ∧ ix.2.1 = 0 ∧ aZ σ.1 = true ∧ 0 ≤ ix.2.2 ∧ o.2.2.length < 2147483648 then (match o.2.2[ix.2.2.toNat]? with | some v => some [(pc + 1, aWS σ (v :: S))] | none => none) else none
        | none => none)
      else if r.1 = 7 then (match i with
        | .iaload => if aIn σ.1 ix 0 ((aG σ.1 r.2.1).1 - 1) = true then (if ix.2.1 = 0 ∧ aZ σ.1 = true ∧ ix.2.2 < 6 then some [(pc + 1, aWS σ ((0, r.2.1 + 1 + ix.2.2.toNat, 0) :: S))] else (aPu σ S 0 (aFull 0)).map (fun σ_q => [(pc + 1, σ_q)])) else none
        | _ => none)
      else none) else none
  | _ => none
def asH (kd : List aKd) (σ : aS) (i : Instr) (len pc : Nat) : Option (List (Nat × aS)) := match i with
  | .arraylength => (match σ.2.2.2.1 with
    | r :: S => if len = 1 then
        (if r.1 = 4 then (match kd[r.2.2.toNat]? with
          | some K => if 1000 ≤ K.1 ∧ K.2.1 < 2147483648 ∧ aZ σ.1 = true then some [(pc + 1, aWS σ ((0, 0, (K.2.1 : Int)) :: S))] else none
          | none => none)
        else if r.1 = 7 then some [(pc + 1, aWS σ ((0, r.2.1, 0) :: S))] else none) else none
    | [] => none)
  | _ => none
def asT (kd : List aKd) (σ : aS) (i : Instr) (len pc : Nat) : Option (List (Nat × aS)) := match σ.2.2.2.1 with
  | v :: ix :: r :: S => if len = 1 ∧ ix.1 = 0 then
      (if aSr i = true then
        (if r.1 = 4 then (match kd[r.2.2.toNat]? with
          | some K => if aAt i K.1 = true ∧ aIn σ.1 ix 0 ((K.2.1 : Int) - 1) = true ∧ aTok σ.1 (aEt K.1) v = true ∧ aInF σ.1 v (aKf K 0) = true then some [(pc + 1, aWS σ S)] else none
          | none => none)
        else if r.1 = 2 then (match aFo σ.2.2.2.2.1 r.2.1 with
          | some o => if aAt i o.2.1 = true ∧ ix.2.1 = 0 ∧ aZ σ.1 = true ∧ 0 ≤ ix.2.2 ∧ ix.2.2 < (o.2.2.length : Int) ∧ aTok σ.1 (aEt o.2.1) v = true then some [(pc + 1, (σ.1, σ.2.1, σ.2.2.1, S, aSo σ.2.2.2.2.1 r.2.1 ix.2.2.toNat v, σ.2.2.2.2.2))] else none
          | none => none)
        else none)
      else (match i with
        | .aastore => if r.1 = 4 ∧ v.1 = 4 then (match kd[r.2.2.toNat]?, kd[v.2.2.toNat]? with
            | some K, some K2 => if 2000 ≤ K.1 ∧ K2.1 = K.1 - 2000 ∧ aIn σ.1 ix 0 ((K.2.1 : Int) - 1) = true ∧ aInF σ.1 v (aKf K 0) = true then some [(pc + 1, aWS σ S)] else none
            | _, _ => none) else none
        | _ => none)) else none
  | _ => none
section XU
variable {p : Program} {l : Launch} {e : Env} {R0 : Room} {s : State} {m : MethodId} {args : Array Value} {below : List Frame} {meth : Method} {c : Code} {Q : State → Prop}
variable {cc : ByteArray} {nL : Nat} {Ts : List Cond} {own : String} {D : va_G} {dA : Nat → ClassId} {cl : List vw_C} {tA : List (Nat × FieldType)} {tyf : Nat → Nat → FieldType} {B : Nat}
variable {kd : List aKd} {b : aSc} {P : Nat → Prop} {h0 : xH} {ρ : Nat → Int} {α τ : Nat → Option Nat} {σ : aS} {pc len : Nat} {lv : List (Nat × Value)} {st : List Value} {h : xH} {i : Instr} {l1 : List (Nat × aS)}
variable {M : aTb}
theorem asK_ok (C : xCx p s m args c cc nL Ts own D dA cl tA tyf B) (hG : aGd own Ts cl tA tyf meth s b M) (hA : aSx kd B b P h0 ρ α τ σ lv st h) (hdg : decode cc pc = .ok (i, len)) (hs : asK M σ i len pc = some l1) (kk : (∀ q ∈ l1, ∀ (ρ_q : Nat → Int) (α_q τ_q : Nat → Option Nat) (lv_q : List (Nat × Value)) (st_q : List Value) (h_q : xH), aSame σ.1.length σ.2.1 ρ ρ_q α α_q → aSub τ τ_q → aSx kd B b P h0 ρ_q α_q τ_q q.2 lv_q st_q h_q → xSafe p l e R0 s m args below meth c nL D dA cl tA B Q q.1 lv_q st_q h_q q.2.2.2.2.2.2.1 q.2.2.2.2.2.2.2)) : xSafe p l e R0 s m args below meth c nL D dA cl tA B Q pc lv st h σ.2.2.2.2.2.1 σ.2.2.2.2.2.2 := by
  unfold asK at hs
  split at hs
  · rename_i hz
    have h00 := aZ_ok hz hA.1.1
    split at hs
    · split at hs
      · rename_i z hf
        split at hs
        · rename_i hl
          subst hl
          cases hs
          obtain ⟨w, h1, h2⟩ := hG.2.2.2.2.2.1 _ (aF1_mem hf)
          exact xs_ldc C h1 hdg (kk _ List.mem_cons_self ρ α τ lv (.int w :: st) h aSame_rf aSub_rf ⟨⟨hA.1.1, hA.1.2.1, ⟨⟨w, rfl, by show w.toInt = ρ 0 + z; rw [h00]; omega⟩, hA.1.2.2.1⟩, hA.1.2.2.2⟩, hA.2⟩)
        · cases hs
      · cases hs
    · split at hs
      · rename_i z hf
        split at hs
        · rename_i hl
          subst hl
          cases hs
          obtain ⟨w, h1, h2⟩ := hG.2.2.2.2.2.1 _ (aF1_mem hf)
          exact xs_ldcw C h1 hdg (kk _ List.mem_cons_self ρ α τ lv (.int w :: st) h aSame_rf aSub_rf ⟨⟨hA.1.1, hA.1.2.1, ⟨⟨w, rfl, by show w.toInt = ρ 0 + z; rw [h00]; omega⟩, hA.1.2.2.1⟩, hA.1.2.2.2⟩, hA.2⟩)
        · cases hs
      · cases hs
    · split at hs
      · rename_i z hf
        split at hs
        · rename_i hl
          subst hl
          cases hs
          obtain ⟨w, h1, h2⟩ := hG.2.2.2.2.2.2.1 _ (aF1_mem hf)
          exact xs_ldc2 C h1 hdg (kk _ List.mem_cons_self ρ α τ lv (.long w :: st) h aSame_rf aSub_rf ⟨⟨hA.1.1, hA.1.2.1, ⟨⟨w, rfl, by show w.toInt = ρ 0 + z; rw [h00]; omega⟩, hA.1.2.2.1⟩, hA.1.2.2.2⟩, hA.2⟩)
        · cases hs
      · cases hs
    · cases hs
  · cases hs
theorem aM_obj {v : aV} {x : Value} (h : aM ρ α τ b v x) (ht : v.1 = 2) : ∃ a : Nat, x = .ref a ∧ α v.2.1 = some a := by
  obtain ⟨t, k, o⟩ := v
  dsimp only at ht
  subst ht
  exact h
theorem aM_knd {v : aV} {x : Value} (h : aM ρ α τ b v x) (ht : v.1 = 4) : ∃ a : Nat, x = .ref a ∧ α v.2.1 = some a ∧ τ a = some v.2.2.toNat := by
  obtain ⟨t, k, o⟩ := v
  dsimp only at ht
  subst ht
  exact h
theorem aM_scr {v : aV} {x : Value} (h : aM ρ α τ b v x) (ht : v.1 = 7) : x = .ref b.1 ∧ ρ v.2.1 = (b.2.1 : Int) ∧ ∀ j, j < 6 → ρ (v.2.1 + 1 + j) = b.2.2 j := by
  obtain ⟨t, k, o⟩ := v
  dsimp only at ht
  subst ht
  exact h
/-- a followed cell, in the heap -/
theorem aSx_obj {k a : Nat} {o : aO} (hA : aSx kd B b P h0 ρ α τ σ lv st h) (ho : aFo σ.2.2.2.2.1 k = some o) (hk : α k = some a) : ∃ V : Nat → Value, B ≤ a ∧ h a = some (o.2.1, o.2.2.length, V) ∧ ∀ (j : Nat) (v : aV), o.2.2[j]? = some v → aM ρ α τ b v (V j) := by
  obtain ⟨m1, m2⟩ := aFo_mem ho
  obtain ⟨a_q, V, e1, e2, e3, e4, e5⟩ := hA.1.2.2.2.1.1 o m1
  rw [m2, hk] at e1
  cases e1
  exact ⟨V, e2, e4, e5⟩
theorem asG_ok (C : xCx p s m args c cc nL Ts own D dA cl tA tyf B) (hG : aGd own Ts cl tA tyf meth s b M) (hA : aSx kd B b P h0 ρ α τ σ lv st h) (hdg : decode cc pc = .ok (i, len)) (hs : asG kd M σ i len pc = some l1) (kk : (∀ q ∈ l1, ∀ (ρ_q : Nat → Int) (α_q τ_q : Nat → Option Nat) (lv_q : List (Nat × Value)) (st_q : List Value) (h_q : xH), aSame σ.1.length σ.2.1 ρ ρ_q α α_q → aSub τ τ_q → aSx kd B b P h0 ρ_q α_q τ_q q.2 lv_q st_q h_q → xSafe p l e R0 s m args below meth c nL D dA cl tA B Q q.1 lv_q st_q h_q q.2.2.2.2.2.2.1 q.2.2.2.2.2.2.2)) : xSafe p l e R0 s m args below meth c nL D dA cl tA B Q pc lv st h σ.2.2.2.2.2.1 σ.2.2.2.2.2.2 := by
  unfold asG at hs
  split at hs
  · split at hs
    · rename_i q r S hf hS
      split at hs
      · rename_i hl
        subst hl
        have h3 := hA.1.2.2.1
        rw [hS] at h3
        obtain ⟨x, st_q, rfl, hx, h4⟩ := aStk_cons h3
        obtain ⟨rr, hr, hfl, hw, -⟩ := hG.1 _ (aF1_mem hf)
        split at hs
        · rename_i ht
          split at hs
          · rename_i o ho
            split at hs
            · rename_i hc
              split at hs
              · rename_i v hv
                cases hs
                obtain ⟨a, rfl, hk⟩ := aM_obj hx ht
                obtain ⟨V, e1, e2, e3⟩ := aSx_obj hA ho hk
                rw [hc] at e2
                exact xs_get C hr hfl hw e2 hdg (kk _ List.mem_cons_self ρ α τ lv (V q.2.1 :: st_q) h aSame_rf aSub_rf ⟨⟨hA.1.1, hA.1.2.1, ⟨e3 _ _ hv, h4⟩, hA.1.2.2.2⟩, hA.2⟩)
              · cases hs
            · cases hs
          · cases hs
        · split at hs
          · rename_i ht
            split at hs
            · rename_i K hK
              split at hs
              · rename_i hc
                cases hp : aPf σ S (aKf K q.2.1) with
                | none => rw [hp] at hs; cases hs
                | some σ_q =>
                  rw [hp] at hs
                  cases hs
                  obtain ⟨a, rfl, hk, hta⟩ := aM_knd hx ht
                  obtain ⟨K_q, V, e1, e2, e3, e4⟩ := hA.1.2.2.2.2 a _ hta
                  cases hK.symm.trans e1
                  rw [hc.1] at e3
                  obtain ⟨ρ_q, α_q, g1, g2, g3⟩ := aPf_ok (σ := σ) (S := S) (st := st_q) (h := h) ⟨⟨hA.1.1, hA.1.2.1, h4, hA.1.2.2.2⟩, hA.2⟩ hp (e4 q.2.1 hc.2)
                  have := kk _ List.mem_cons_self ρ_q α_q τ lv (V q.2.1 :: st_q) h g1 aSub_rf g2
                  rw [g3] at this
                  exact xs_get C hr hfl hw e3 hdg this
              · cases hs
            · cases hs
          · cases hs
      · cases hs
    · cases hs
  · cases hs
theorem asP_ok (C : xCx p s m args c cc nL Ts own D dA cl tA tyf B) (hG : aGd own Ts cl tA tyf meth s b M) (hA : aSx kd B b P h0 ρ α τ σ lv st h) (hdg : decode cc pc = .ok (i, len)) (hs : asP kd M σ i len pc = some l1) (kk : (∀ q ∈ l1, ∀ (ρ_q : Nat → Int) (α_q τ_q : Nat → Option Nat) (lv_q : List (Nat × Value)) (st_q : List Value) (h_q : xH), aSame σ.1.length σ.2.1 ρ ρ_q α α_q → aSub τ τ_q → aSx kd B b P h0 ρ_q α_q τ_q q.2 lv_q st_q h_q → xSafe p l e R0 s m args below meth c nL D dA cl tA B Q q.1 lv_q st_q h_q q.2.2.2.2.2.2.1 q.2.2.2.2.2.2.2)) : xSafe p l e R0 s m args below meth c nL D dA cl tA B Q pc lv st h σ.2.2.2.2.2.1 σ.2.2.2.2.2.2 := by
  unfold asP at hs
  split at hs
  · split at hs
    · rename_i q v r S hf hS
      split at hs
      · rename_i hc0
        obtain ⟨hl, hty, hfin⟩ := hc0
        subst hl
        have h3 := hA.1.2.2.1
        rw [hS] at h3
        obtain ⟨x, st_q, rfl, hx, h4⟩ := aStk_cons h3
        obtain ⟨y, st_q, rfl, hy, h5⟩ := aStk_cons h4
        obtain ⟨rr, hr, hfl, hw, hf0, hf1⟩ := hG.1 _ (aF1_mem hf)
        obtain ⟨hn1, hn2⟩ := aTok_ok hA.1.1 hx (hG.2.1 q.1 q.2.1) hty
        have hfin_q : (rr.2.1 q.2.1).2.2.2 = false ∨ ((rr.2.1 q.2.1).2.2.2 = true ∧ meth.name = "<init>" ∧ (rr.2.1 q.2.1).1 = own) := by
          rcases hfin with h6 | ⟨h6, h7⟩
          · exact Or.inl (hf0 h6)
          · exact Or.inr ⟨(hf1 h6).1, hG.2.2.2.2.2.2.2.1 h7, (hf1 h6).2⟩
        split at hs
        · rename_i ht
          split at hs
          · rename_i o ho
            split at hs
            · rename_i hc
              cases hs
              obtain ⟨a, rfl, hk⟩ := aM_obj hy ht
              obtain ⟨V, e1, e2, e3⟩ := aSx_obj hA ho hk
              have hA2 : aSx kd B b P h0 ρ α τ (σ.1, σ.2.1, σ.2.2.1, S, σ.2.2.2.2) lv st_q h := ⟨⟨hA.1.1, hA.1.2.1, h5, hA.1.2.2.2⟩, hA.2⟩
              have hw2 := aSx_wo (f := q.2.1) hA2 ho hk e2 hx
              rw [hc] at e2 hw2
              exact xs_put C hr hfl hw e2 e1 hn1 hn2 hfin_q hdg (kk _ List.mem_cons_self ρ α τ lv st_q _ aSame_rf aSub_rf hw2)
            · cases hs
          · cases hs
        · split at hs
          · rename_i ht
            split at hs
            · rename_i K hK
              split at hs
              · rename_i hc
                cases hs
                obtain ⟨a, rfl, hk, hta⟩ := aM_knd hy ht
                obtain ⟨K_q, V, e1, e2, e3, e4⟩ := hA.1.2.2.2.2 a _ hta
                cases hK.symm.trans e1
                have hA2 : aSx kd B b P h0 ρ α τ (aWS σ S) lv st_q h := ⟨⟨hA.1.1, hA.1.2.1, h5, hA.1.2.2.2⟩, hA.2⟩
                have hw2 := aSx_wk (j := q.2.1) hA2 hta hK e3 (aInF_ok hA.1.1 hx hc.2.2)
                rw [hc.1] at e3 hw2
                exact xs_put C hr hfl hw e3 e2 hn1 hn2 hfin_q hdg (kk _ List.mem_cons_self ρ α τ lv st_q _ aSame_rf aSub_rf hw2)
              · cases hs
            · cases hs
          · cases hs
      · cases hs
    · cases hs
  · cases hs
theorem aIx {ix : aV} {x : Value} {N : Nat} (hR : aOkR σ.1 ρ) (hx : aM ρ α τ b ix x) (h0x : ix.1 = 0) (hi : aIn σ.1 ix 0 ((N : Int) - 1) = true) : ∃ z : Int32, x = .int z ∧ vp_in z N := by
  obtain ⟨z, rfl, hz⟩ := aM_int hx h0x
  have := aIn_ok hR hi
  exact ⟨z, rfl, vp_in_iff.mpr (by omega)⟩
/-- an element is read -/
theorem aRd (C : xCx p s m args c cc nL Ts own D dA cl tA tyf B) (hG : aGd own Ts cl tA tyf meth s b M) {a t N : Nat} {V : Nat → Value} {j : Int32} (ht : aAt i t = true) (hl : aLd i = true) (hty : 2000 ≤ t → ∃ ty, (t, ty) ∈ tA) (ha : h a = some (t, N, V)) (hj : vp_in j N) (hdg : decode cc pc = .ok (i, 1)) {k n : Nat} (kk : xSafe p l e R0 s m args below meth c nL D dA cl tA B Q (pc + 1) lv (V j.toNatClampNeg :: st) h k n) : xSafe p l e R0 s m args below meth c nL D dA cl tA B Q pc lv (.int j :: .ref a :: st) h k n := by
  have hA4 := hG.2.2.2.2.1.1
  unfold aAt at ht
  split at ht
  · exact xs_ald C (Or.inl ⟨by simpa using ht, rfl⟩) hA4 ha hj hdg kk
  · exact xs_ald C (Or.inr (Or.inl ⟨by simpa using ht, rfl⟩)) hA4 ha hj hdg kk
  · simp only [Bool.or_eq_true, decide_eq_true_eq] at ht
    rcases ht with ht | ht
    · exact xs_ald C (Or.inr (Or.inr (Or.inl ⟨ht, rfl⟩))) hA4 ha hj hdg kk
    · exact xs_ald C (Or.inr (Or.inr (Or.inr ⟨ht, rfl⟩))) hA4 ha hj hdg kk
  · simp only [decide_eq_true_eq] at ht
    obtain ⟨ty, hty⟩ := hty ht
    obtain ⟨r, -, rfl⟩ := hG.2.2.2.2.1.2.2.2.2.2 t ty hty ht
    exact xs_aald C hty ha hj hdg kk
  · cases hl
  · cases hl
  · cases hl
  · cases ht
end XU
