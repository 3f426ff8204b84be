/-! ===== the checker: calls, ends and throws as steps ===== -/
/-- a method: its name, code, locals, answer's type, table of handlers -/
abbrev aMd : Type := MethodName × ByteArray × Nat × Option FieldType × List (Nat × Nat × Nat × Nat)
def aCw (d : aMd) : Cond := if d.2.2.2.2 = [] then .code d.1 d.2.1 d.2.2.1 d.2.2.2.1 else .codeWith d.1 d.2.1 d.2.2.1 d.2.2.2.1 d.2.2.2.2
/-- a call: its index, its sort (0 virtual, 1 static, 2 a constructor, 3 a nest mate's constructor, 4 Object's, 5 static with handlers), how many arguments, the receiver's class, the method, the cases that may serve -/
abbrev aIv : Type := Nat × Nat × Nat × Nat × Nat × List Nat
def aXx (i : Instr) : Option (Nat × Nat) := match i with
  | .invokevirtual ix => some (ix, 0)
  | .invokestatic ix => some (ix, 1)
  | .invokespecial ix => some (ix, 2)
  | _ => none
/-- may the sort of the call be that of the instruction -/
def aXs (t k : Nat) : Bool := match k with
  | 0 => Nat.beq t 0
  | 1 => Nat.beq t 1
  | 2 => Nat.beq t 2
  | 3 => Nat.beq t 2
  | 4 => Nat.beq t 2
  | 5 => Nat.beq t 1
  | _ => false
def aId (m ma : Nat) (mp : aMp) : Bool := (List.range m).all (fun j => decide (aF1 mp.1 j = some (j, 0))) && (List.range ma).all (fun j => decide (aF1 mp.2 j = some (j + 1)))
def aMp0 (m ma : Nat) : aMp := ((List.range m).map (fun j => (j, j, 0)), (List.range ma).map (fun j => (j, j + 1)))
theorem aId_ok {m ma : Nat} {mp : aMp} {RB : aRg} {ρ0 ρ : Nat → Int} {α0 α : Nat → Option Nat} (h : aId m ma mp = true) (hs : aSame m ma ρ0 ρ α0 α) : aSame m ma ρ0 (aRB mp RB ρ) α0 (aAB mp α) := by
  simp only [aId, Bool.and_eq_true] at h
  refine ⟨fun k hk => ?_, fun k hk => ?_⟩
  · have h1 := List.all_eq_true.mp h.1 k (List.mem_range.mpr hk)
    simp only [decide_eq_true_eq] at h1
    unfold aRB
    rw [h1]
    show ρ k + 0 = _
    rw [hs.1 k hk]
    omega
  · have h1 := List.all_eq_true.mp h.2 k (List.mem_range.mpr hk)
    simp only [decide_eq_true_eq] at h1
    unfold aAB
    rw [h1]
    exact hs.2 k hk
/-- is the state one of these ends -/
def aEnd1 (m ma : Nat) (σ W : aS) : Bool := ack (amF (aMp0 m ma) σ W) σ W && aId m ma (amF (aMp0 m ma) σ W)
def aNoL (σ : aS) (S : List aV) : aS := (σ.1, σ.2.1, [], S, σ.2.2.2.2)
/-- the handler that takes the exception x thrown at pc: rows (from, to, handler, index, exception) -/
def aHd (hs : List (Nat × Nat × Nat × Nat × Nat)) (pc x : Nat) : Option Nat := match hs with
  | [] => none
  | q :: qs => if q.1 ≤ pc ∧ pc < q.2.1 ∧ q.2.2.2.2 = x then some q.2.2.1 else aHd qs pc x
/-- the successors where the callee has thrown -/
def aThr (own : aI) (hs : List (Nat × Nat × Nat × Nat × Nat)) (σ : aS) (pc x : Nat) : Option (List (Nat × aS)) :=
  match aHd hs pc x with
  | some hp => some [(hp, (σ.1, σ.2.1, σ.2.2.1, [(8, 0, 0)], σ.2.2.2.2))]
  | none => if hs.isEmpty = true ∧ own.2.2.2.2.2.2.2.any (fun q => Nat.beq q.1 x && aEnd1 own.2.2.1.length own.2.2.2.1 (aNoL σ []) q.2) = true then some [] else none
def aBehind (own : aI) (hs : List (Nat × Nat × Nat × Nat × Nat)) (σ : aS) (S : List aV) (mp : aMp) (I : aI) (pc : Nat) : Option (List (Nat × aS)) :=
  if I.2.2.2.2.2.2.1.all (aCe I) = true ∧ I.2.2.2.2.2.2.2.all (fun q => aCe I q.2 && q.2.2.2.2.1.isEmpty) = true then
    aAll (I.2.2.2.2.2.2.1.map (fun E => match aAf σ S mp I E with | some σ2 => some [(pc + 3, σ2)] | none => some []) ++
      I.2.2.2.2.2.2.2.map (fun q => match aAf σ S mp I q.2 with | some σ2 => aThr own hs (aWS σ2 []) pc q.1 | none => some []))
  else none
/-- room for the call -/
def aRoomOk (own I : aI) (maxL k n : Nat) : Bool := Nat.ble (I.2.1.1 + 1) own.2.1.1 && Nat.ble (8 + (maxL + 11) + I.2.1.2.2.2) own.2.1.2.2.2 && Nat.ble (k + I.2.1.2.1) own.2.1.2.1 && Nat.ble (n + I.2.1.2.2.1) own.2.1.2.2.1
/-- the receiver's class -/
def aRcv (kd : List aKd) (O : List aO) (ci : Nat) (A : List aV) : Bool := match A with
  | v :: _ => if v.1 = 2 then (match aFo O v.2.1 with | some o => Nat.beq o.2.1 ci | none => false) else if v.1 = 4 then (match kd[v.2.2.toNat]? with | some K => Nat.beq K.1 ci | none => false) else false
  | [] => false
def aTry (mx : List Nat) (kd : List aKd) (own : aI) (hs : List (Nat × Nat × Nat × Nat × Nat)) (J : List aI) (q : aIv) (σ : aS) (pc n : Nat) : Option (List (Nat × aS)) := match J[n]? with
  | some I => if I.1 = q.2.2.2.2.1 ∧ aRoomOk own I (mx.getD I.1 0) σ.2.2.2.2.2.1 σ.2.2.2.2.2.2 = true ∧ q.2.2.1 ≤ σ.2.2.2.1.length ∧ ((σ.2.2.2.1.drop q.2.2.1).map acat).sum ≤ 8 ∧
        (q.2.1 = 0 ∨ q.2.1 = 2 ∨ q.2.1 = 3 → aRcv kd σ.2.2.2.2.1 q.2.2.2.1 (σ.2.2.2.1.take q.2.2.1).reverse = true) ∧ (q.2.1 = 2 ∨ q.2.1 = 3 ∨ q.2.1 = 5 → I.2.2.2.2.2.2.2.isEmpty = true) ∧
        aCk σ (σ.2.2.2.1.drop q.2.2.1) (σ.2.2.2.1.take q.2.2.1).reverse (amF ([(0, 0, 0)], []) (σ.1, σ.2.1, [], (σ.2.2.2.1.take q.2.2.1).reverse, σ.2.2.2.2.1, 0, 0) (aEa I)) I = true then
      aBehind own hs σ (σ.2.2.2.1.drop q.2.2.1) (amF ([(0, 0, 0)], []) (σ.1, σ.2.1, [], (σ.2.2.2.1.take q.2.2.1).reverse, σ.2.2.2.2.1, 0, 0) (aEa I)) I pc else none
  | none => none
def aFst {β γ : Type} (f : β → Option γ) : List β → Option γ
  | [] => none
  | x :: xs => (match f x with | some y => some y | none => aFst f xs)
def asV (mx : List Nat) (kd : List aKd) (own : aI) (hs : List (Nat × Nat × Nat × Nat × Nat)) (J : List aI) (iv : List aIv) (σ : aS) (i : Instr) (len pc : Nat) : Option (List (Nat × aS)) := match aXx i with
  | some t => (match iv.find? (fun q => q.1 == t.1) with
    | some q => if len = 3 ∧ aXs t.2 q.2.1 = true then
        (if q.2.1 = 4 then (match σ.2.2.2.1 with
          | v :: S => if v.1 = 2 ∧ 1 ≤ own.2.1.1 ∧ (S.map acat).sum + 12 ≤ own.2.1.2.2.2 then some [(pc + 3, aWS σ S)] else none
          | [] => none)
        else aFst (aTry mx kd own hs J q σ pc) q.2.2.2.2.2) else none
    | none => none)
  | none => none
/-- a return -/
def aRt (own : aI) (σ : aS) : Bool := own.2.2.2.2.2.2.1.any (fun W => aEnd1 own.2.2.1.length own.2.2.2.1 (aNoL σ σ.2.2.2.1) W)
def asR (own : aI) (rtc : Nat) (σ : aS) (i : Instr) (len : Nat) : Option (List (Nat × aS)) := match i with
  | .ireturn => (match σ.2.2.2.1 with | [v] => if len = 1 ∧ (rtc = 0 ∨ rtc = 2 ∨ rtc = 3) ∧ aTok σ.1 rtc v = true ∧ aRt own σ = true then some [] else none | _ => none)
  | .lreturn => (match σ.2.2.2.1 with | [v] => if len = 1 ∧ rtc = 1 ∧ v.1 = 1 ∧ aRt own σ = true then some [] else none | _ => none)
  | .areturn => (match σ.2.2.2.1 with | [v] => if len = 1 ∧ rtc = 4 ∧ aTok σ.1 4 v = true ∧ aRt own σ = true then some [] else none | _ => none)
  | .return_ => (match σ.2.2.2.1 with | [] => if len = 1 ∧ rtc = 5 ∧ aRt own σ = true then some [] else none | _ => none)
  | _ => none
/-- 'throw new E()' -/
def aTw (own : aI) (σ : aS) (x : Nat) : Bool := Nat.blt 5 own.2.1.1 && Nat.ble ((σ.2.2.2.1.map acat).sum + 81) own.2.1.2.2.2 && Nat.ble (σ.2.2.2.2.2.1 + 1) own.2.1.2.1 && Nat.ble (σ.2.2.2.2.2.2 + 6) own.2.1.2.2.1 &&
  own.2.2.2.2.2.2.2.any (fun q => Nat.beq q.1 x && aEnd1 own.2.2.1.length own.2.2.2.1 (σ.1, σ.2.1, [], [], σ.2.2.2.2.1, σ.2.2.2.2.2.1 + 1, σ.2.2.2.2.2.2 + 6) q.2)
section XE
variable {p : Program} {l : Launch} {e : Env} {R0 : Room} {s : State} {m : MethodId} {args : Array Value} {below : List Frame} {meth : Method} {c : Code} {Q : State → Prop}
variable {cc : ByteArray} {nL : Nat} {Ts : List Cond} {own : String} {D : va_G} {dA : Nat → ClassId} {cl : List vw_C} {tA : List (Nat × FieldType)} {tyf : Nat → Nat → FieldType} {B : Nat}
variable {kd : List aKd} {b : aSc} {P : Nat → Prop} {h0 : xH} {ρ : Nat → Int} {α τ : Nat → Option Nat} {σ : aS} {pc len : Nat} {lv : List (Nat × Value)} {st : List Value} {h : xH} {i : Instr} {l1 : List (Nat × aS)}
variable {P0 : Nat → Prop} {hI : xH} {own9 I : aI} {ρ0 : Nat → Int} {α0 τ0 : Nat → Option Nat} {xn : List String} {nw : List Cond} {nc : List (String × String)} {ao : List String}
theorem aEnd1_ok {W : aS} {S : List aV} (hA : aSx kd B b P h0 ρ α τ (aNoL σ S) lv st h) (hs : aSame own9.2.2.1.length own9.2.2.2.1 ρ0 ρ α0 α) (he : aEnd1 own9.2.2.1.length own9.2.2.2.1 (aNoL σ S) W = true) :
    ∃ (ρ_q : Nat → Int) (α_q : Nat → Option Nat), aSame own9.2.2.1.length own9.2.2.2.1 ρ0 ρ_q α0 α_q ∧ aSx kd B b P h0 ρ_q α_q τ W lv st h ∧ σ.2.2.2.2.2.1 ≤ W.2.2.2.2.2.1 ∧ σ.2.2.2.2.2.2 ≤ W.2.2.2.2.2.2 := by
  simp only [aEnd1, Bool.and_eq_true] at he
  obtain ⟨g1, g2, g3⟩ := ack_ok hA he.1
  exact ⟨_, _, aId_ok he.2 hs, g1, g2, g3⟩
end XE
