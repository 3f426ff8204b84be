/-! ===== the run of what makes cells ===== -/
noncomputable def kF1 {β : Type} (l : List (Nat × β)) (k : Nat) : Option β := @List.rec (Nat × β) (fun _ => Option β) none (fun q _ ih => @Bool.rec (fun _ => Option β) ih (some q.2) (Nat.beq q.1 k)) l
theorem kF1_mem {β : Type} {k : Nat} {v : β} : ∀ {l : List (Nat × β)}, kF1 l k = some v → (k, v) ∈ l
  | [], h => by cases h
  | q :: r, h => by
    have h : @Bool.rec (fun _ => Option β) (kF1 r k) (some q.2) (Nat.beq q.1 k) = some v := h
    cases hb : Nat.beq q.1 k with
    | true =>
      rw [hb] at h
      have h : some q.2 = some v := h
      cases h
      rw [← Nat.eq_of_beq_eq_true hb]
      exact List.mem_cons_self
    | false =>
      rw [hb] at h
      exact List.mem_cons_of_mem _ (kF1_mem (show kF1 r k = some v from h))
noncomputable def kDf (k : Nat) : Value := if k = 1 then .long 0 else if k = 4 then .null else .int 0
theorem kDf_ok {k : Nat} {ty : FieldType} (hk : aTy k ty) (h4 : k ≤ 4) : defaultValue ty = kDf k := by
  obtain ⟨k0, k1, k2, k3, k4⟩ := hk
  rcases (show k = 0 ∨ k = 1 ∨ k = 2 ∨ k = 3 ∨ k = 4 by omega) with rfl | rfl | rfl | rfl | rfl
  · rw [k0 rfl]; rfl
  · rw [k1 rfl]; rfl
  · rw [k2 rfl]; rfl
  · rw [k3 rfl]; rfl
  · rcases k4 rfl with ⟨E, rfl⟩ | ⟨t, rfl⟩ <;> rfl
/-- may the value lie in a field of this sort -/
noncomputable def kTk (k : Nat) (v : Value) : Bool := (Nat.beq k 0 && Nat.beq (xsort v) 0) || (Nat.beq k 1 && Nat.beq (xsort v) 1) || (Nat.beq k 4 && Nat.beq (xsort v) 2)
theorem kTk_ok {as : Nat → Nat} {k : Nat} {v : Value} {ty : FieldType} (hk : aTy k ty) (h : kTk k v = true) : narrow ty (kRn as v) = kRn as v ∧ fits ty (kRn as v) = true := by
  obtain ⟨k0, k1, -, -, k4⟩ := hk
  simp only [kTk, Bool.or_eq_true, Bool.and_eq_true] at h
  rcases h with (h | h) | h
  · rw [k0 (Nat.eq_of_beq_eq_true h.1)]
    have := Nat.eq_of_beq_eq_true h.2
    cases v <;> simp [xsort] at this <;> exact ⟨rfl, rfl⟩
  · rw [k1 (Nat.eq_of_beq_eq_true h.1)]
    have := Nat.eq_of_beq_eq_true h.2
    cases v <;> simp [xsort] at this <;> exact ⟨rfl, rfl⟩
  · have := Nat.eq_of_beq_eq_true h.2
    rcases k4 (Nat.eq_of_beq_eq_true h.1) with ⟨E, rfl⟩ | ⟨t, rfl⟩ <;> (cases v <;> simp [xsort] at this <;> exact ⟨rfl, rfl⟩)
noncomputable def kOb (c : kC) : Bool := Nat.blt c.1 1000 || Nat.ble 2000 c.1
theorem kOb_ok {c : kC} (h : kOb c = true) : c.1 < 1000 ∨ 2000 ≤ c.1 := by
  simp only [kOb, Bool.or_eq_true] at h
  exact h.imp (fun h => (Nat.blt_eq).mp h) (fun h => Nat.le_of_ble_eq_true h)
/-- one instruction that calls nothing -/
noncomputable def kP0 (i : Instr) (len pc : Nat) (σ : kS) : Option (Nat × kS) := match xop0 i with
  | some q => if q.2 = len ∧ xsort q.1 = 0 then some (pc + len, σ.1, q.1 :: σ.2.1, σ.2.2) else none
  | none => none
noncomputable def kP1 (i : Instr) (len pc : Nat) (σ : kS) : Option (Nat × kS) := match xldi i with
  | some q => (match xget σ.1 q.1 with
    | some v => if q.2.2 = len ∧ xsort v = q.2.1 then some (pc + len, σ.1, v :: σ.2.1, σ.2.2) else none
    | none => none)
  | none => none
noncomputable def kP2 (nL : Nat) (i : Instr) (len pc : Nat) (σ : kS) : Option (Nat × kS) := match xsti i, σ.2.1 with
  | some q, v :: S => if q.2.2 = len ∧ xsort v = q.2.1 ∧ q.1 + v.category ≤ nL then some (pc + len, xset σ.1 q.1 v, S, σ.2.2) else none
  | _, _ => none
noncomputable def kP3 (nL : Nat) (M : aTb) (i : Instr) (len pc : Nat) (σ : kS) : Option (Nat × kS) := match i with
  | .dup => (match σ.2.1 with
    | v :: S => if len = 1 ∧ v.category = 1 then some (pc + 1, σ.1, v :: v :: S, σ.2.2) else none
    | [] => none)
  | .iinc ix z => (match xget σ.1 ix with
    | some (.int x) => if len = 3 ∧ ix < nL then some (pc + 3, xset σ.1 ix (.int (x + Int32.ofInt z)), σ.2) else none
    | _ => none)
  | .goto off => if len = 3 ∧ 0 ≤ (pc : Int) + off then some (((pc : Int) + off).toNat, σ) else none
  | .if_icmp cd off => (match σ.2.1 with
    | .int y :: .int x :: S => if len = 3 ∧ 0 ≤ (pc : Int) + off then some (cond (xcmp cd x y) ((pc : Int) + off).toNat (pc + 3), σ.1, S, σ.2.2) else none
    | _ => none)
  | .isub => (match σ.2.1 with
    | .int y :: .int x :: S => if len = 1 then some (pc + 1, σ.1, .int (x - y) :: S, σ.2.2) else none
    | _ => none)
  | .ishl => (match σ.2.1 with
    | .int y :: .int x :: S => (match xop2 .ishl (.int x) (.int y) with
      | some (.int z) => if len = 1 then some (pc + 1, σ.1, .int z :: S, σ.2.2) else none
      | _ => none)
    | _ => none)
  | .ldc ix => (match kF1 M.2.2.2.2.2.2.1 ix with
    | some z => if len = 2 then some (pc + 2, σ.1, .int (Int32.ofInt z) :: σ.2.1, σ.2.2) else none
    | none => none)
  | _ => none
/-- a list made plain -/
noncomputable def kSp {α β : Type} (l : List α) : (List α → β) → β := @List.rec α (fun _ => (List α → β) → β) (fun k => k []) (fun q _ ih k => ih (fun r => k (q :: r))) l
theorem kSp_ok {α β : Type} : ∀ {l : List α} {k : List α → β}, kSp l k = k l
  | [], _ => rfl
  | q :: r, k => by
    show kSp r (fun r => k (q :: r)) = _
    rw [kSp_ok]
noncomputable def kSq {α β : Type} (b : Bool) (l : List α) (k : List α → β) : β := cond b (kSp l k) (k l)
theorem kSq_ok {α β : Type} {b : Bool} {l : List α} {k : List α → β} : kSq b l k = k l := by
  unfold kSq
  cases b
  · rfl
  · exact kSp_ok
noncomputable def kFn {β : Type} (n : Nat) (k : Nat → β) : β := @Nat.rec (fun _ => β) (k 0) (fun m _ => k (Nat.succ m)) n
theorem kFn_ok {β : Type} {n : Nat} {k : Nat → β} : kFn n k = k n := by cases n <;> rfl
noncomputable def kHd {α β : Type} (l : List α) (k : List α → β) : β := @List.rec α (fun _ => β) (k []) (fun q r _ => k (q :: r)) l
theorem kHd_ok {α β : Type} {l : List α} {k : List α → β} : kHd l k = k l := by cases l <;> rfl
/-- a state made plain -/
noncomputable def kPl {β : Type} (q : Nat × kS) (k : Nat → kS → β) : β :=
  @Prod.rec Nat kS (fun _ => β) (fun pc x1 => @Prod.rec (List (Nat × Value)) (List Value × List (Nat × kC) × Nat × Nat × Nat) (fun _ => β) (fun L x2 => @Prod.rec (List Value) (List (Nat × kC) × Nat × Nat × Nat) (fun _ => β) (fun S x3 => @Prod.rec (List (Nat × kC)) (Nat × Nat × Nat) (fun _ => β) (fun cs x4 => @Prod.rec Nat (Nat × Nat) (fun _ => β) (fun n x5 => @Prod.rec Nat Nat (fun _ => β) (fun c s =>
    kFn pc (fun pc => kSp L (fun L => kSp S (fun S => kHd cs (fun cs => kFn n (fun n => kFn c (fun c => kFn s (fun s => k pc (L, S, cs, n, c, s))))))))) x5) x4) x3) x2) x1) q
theorem kPl_ok {β : Type} {q : Nat × kS} {k : Nat → kS → β} : kPl q k = k q.1 q.2 := by
  obtain ⟨pc, L, S, cs, n, c, s⟩ := q
  show kFn pc (fun pc => kSp L (fun L => kSp S (fun S => kHd cs (fun cs => kFn n (fun n => kFn c (fun c => kFn s (fun s => k pc (L, S, cs, n, c, s)))))))) = _
  rw [kFn_ok, kSp_ok, kSp_ok, kHd_ok, kFn_ok, kFn_ok, kFn_ok]
/-- what touches cells -/
noncomputable def kP4 (M : aTb) (i : Instr) (len pc : Nat) (σ : kS) : Option (Nat × kS) := match i with
  | .getfield idx => (match kF1 M.1 idx, σ.2.1 with
    | some q, .ref a :: S => (match kGet σ.2.2.1 a with
      | some c => (match c.2.2.1[q.2.1]? with
        | some v => if len = 3 ∧ c.1 = q.1 ∧ q.1 < 1000 then some (pc + 3, σ.1, v :: S, σ.2.2) else none
        | none => none)
      | none => none)
    | _, _ => none)
  | .putfield idx => (match kF1 M.1 idx, σ.2.1 with
    | some q, v :: .ref a :: S => (match kGet σ.2.2.1 a with
      | some c => if len = 3 ∧ c.1 = q.1 ∧ q.1 < 1000 ∧ q.2.1 < c.2.1 ∧ kTk (aTc M.2.1 q.1 q.2.1) v = true ∧ (q.2.2 = 0 ∨ (q.2.2 = 1 ∧ M.2.2.2.2.2.2.2.2 = true)) then kSp (c.2.2.1.set q.2.1 v) (fun vs => some (pc + 3, σ.1, S, kSet σ.2.2.1 a (c.1, c.2.1, vs, c.2.2.2), σ.2.2.2)) else none
      | none => none)
    | _, _ => none)
  | .new idx => (match kF1 M.2.2.1 idx with
    | some q => if len = 3 ∧ q.1 < 1000 ∧ (List.range q.2).all (fun j => Nat.ble (aTc M.2.1 q.1 j) 4) = true then kSp ((List.range q.2).map (fun j => kDf (aTc M.2.1 q.1 j))) (fun vs => kFn σ.2.2.2.1 (fun n => some (pc + 3, σ.1, .ref n :: σ.2.1, (n, (q.1, q.2, vs, 0, 0)) :: σ.2.2.1, n + 1, σ.2.2.2.2.1 + 1, σ.2.2.2.2.2 + q.2))) else none
    | none => none)
  | .newarray at0 => (match aNt at0, σ.2.1 with
    | some t, .int j :: S => if len = 2 ∧ ¬ j < 0 ∧ j.toNatClampNeg ≤ 60000000 then kFn σ.2.2.2.1 (fun n => kFn j.toNatClampNeg (fun N => some (pc + 2, σ.1, .ref n :: S, (n, (t.1, N, [], 0, 0)) :: σ.2.2.1, n + 1, σ.2.2.2.2.1 + 1, σ.2.2.2.2.2 + N))) else none
    | _, _ => none)
  | .anewarray idx => (match kF1 M.2.2.2.1 idx, σ.2.1 with
    | some t, .int j :: S => if len = 3 ∧ ¬ j < 0 ∧ j.toNatClampNeg ≤ 1000 ∧ 2000 ≤ t then kFn σ.2.2.2.1 (fun n => kFn j.toNatClampNeg (fun N => kSp (List.replicate N .null) (fun vs => some (pc + 3, σ.1, .ref n :: S, (n, (t, N, vs, 0, 0)) :: σ.2.2.1, n + 1, σ.2.2.2.2.1 + 1, σ.2.2.2.2.2 + N)))) else none
    | _, _ => none)
  | .aastore => (match σ.2.1 with
    | .ref a2 :: .int j :: .ref a :: S => (match kGet σ.2.2.1 a, kGet σ.2.2.1 a2 with
      | some c, some c2 => if len = 1 ∧ 2000 ≤ c.1 ∧ c2.1 = c.1 - 2000 ∧ ¬ j < 0 ∧ j.toNatClampNeg < c.2.1 ∧ M.2.2.2.1.any (fun z => Nat.beq z.2 c.1) = true then kSp (c.2.2.1.set j.toNatClampNeg (.ref a2)) (fun vs => kSq (Nat.beq c.2.1 61) (kSet σ.2.2.1 a (c.1, c.2.1, vs, c.2.2.2)) (fun cs => some (pc + 1, σ.1, S, cs, σ.2.2.2))) else none
      | _, _ => none)
    | _ => none)
  | _ => none
noncomputable def kOne (nL : Nat) (M : aTb) (i : Instr) (len pc : Nat) (σ : kS) : Option (Nat × kS) :=
  aOr (kP0 i len pc σ) (aOr (kP1 i len pc σ) (aOr (kP2 nL i len pc σ) (aOr (kP3 nL M i len pc σ) (kP4 M i len pc σ))))
section KP
variable {p : Program} {l : Launch} {e : Env} {R : Room} {s : State} {m : MethodId} {args : Array Value} {below : List Frame} {meth : Method} {c : Code} {Q : State → Prop}
variable {cc : ByteArray} {nL : Nat} {Ts : List Cond} {own : String} {D : va_G} {dA : Nat → ClassId} {cl : List vw_C} {tA : List (Nat × FieldType)} {tyf : Nat → Nat → FieldType} {B : Nat}
variable {pc len : Nat} {lv : List (Nat × Value)} {st : List Value} {h : xH} {i : Instr} {as : Nat → Nat} {σ : kS} {q : Nat × kS} {b : aSc} {M : aTb}
/-- what a step must give: more cells and slots, and the walk goes on -/
noncomputable def kGo (p : Program) (l : Launch) (e : Env) (R : Room) (s : State) (m : MethodId) (args : Array Value) (below : List Frame) (meth : Method) (c : Code) (nL : Nat) (D : va_G) (dA : Nat → ClassId) (cl : List vw_C) (tA : List (Nat × FieldType)) (B : Nat) (Q : State → Prop) (pc : Nat) (lv : List (Nat × Value)) (st : List Value) (h : xH) (as : Nat → Nat) (σ : kS) (q : Nat × kS) : Prop :=
  q.2.2.2.2.2.1 ≤ R.cells → q.2.2.2.2.2.2 ≤ R.slots → (∀ (as_q : Nat → Nat) (lv_q : List (Nat × Value)) (st_q : List Value) (h_q : xH), (σ.2.2.2.1 ≤ q.2.2.2.2.1 ∧ ∀ i, i < σ.2.2.2.1 → as_q i = as i) → kSt as_q B q.2 lv_q st_q h_q → xSafe p l e R s m args below meth c nL D dA cl tA B Q q.1 lv_q st_q h_q q.2.2.2.2.2.1 q.2.2.2.2.2.2) →
    xSafe p l e R s m args below meth c nL D dA cl tA B Q pc lv st h σ.2.2.2.2.1 σ.2.2.2.2.2
theorem kP0_ok (C : xCx p s m args c cc nL Ts own D dA cl tA tyf B) (hA : kSt as B σ lv st h) (hdg : decode cc pc = .ok (i, len)) (h1 : kP0 i len pc σ = some q) : kGo p l e R s m args below meth c nL D dA cl tA B Q pc lv st h as σ q := by
  unfold kP0 at h1
  split at h1
  · rename_i z hz
    split at h1
    · rename_i hc
      cases h1
      intro k1 k2 kk
      have hz2 : kRn as z.1 = z.1 := by
        have := hc.2
        cases hv : z.1 <;> rw [hv] at this <;> simp [xsort] at this
        rfl
      refine xs_op0 C (v := z.1) (len := len) (by rw [hz, ← hc.1]) hdg (kk as lv (z.1 :: st) h ⟨Nat.le_refl _, fun _ _ => rfl⟩ ⟨hA.1, ?_, hA.2.2.1, hA.2.2.2.1, fun v hv => ?_⟩)
      · rw [hA.2.1]
        show _ = kRn as z.1 :: _
        rw [hz2]
      · rcases List.mem_cons.mp hv with rfl | hv
        · intro i hi
          rw [hi] at hc
          exact absurd hc.2 (by simp [xsort])
        · exact hA.2.2.2.2 v hv
    · cases h1
  · cases h1
theorem kW_get {n : Nat} {L : List (Nat × Value)} {i : Nat} {v : Value} (h : ∀ q ∈ L, kW n q.2) (hg : xget L i = some v) : kW n v := by
  unfold xget at hg
  cases e : L.find? (fun q => q.1 == i) with
  | none => rw [e] at hg; cases hg
  | some q =>
    rw [e] at hg
    cases hg
    exact h q (List.mem_of_find?_eq_some e)
theorem kW_set {n : Nat} {L : List (Nat × Value)} {i : Nat} {v : Value} (h : ∀ q ∈ L, kW n q.2) (hv : kW n v) : ∀ q ∈ xset L i v, kW n q.2 := by
  intro q hq
  unfold xset at hq
  split at hq
  · rcases List.mem_cons.mp hq with rfl | hq
    · exact hv
    · exact h q (List.mem_filter.mp hq).1
  · rcases List.mem_cons.mp hq with rfl | hq
    · exact hv
    · exact h q (List.mem_filter.mp hq).1
theorem kP1_ok (C : xCx p s m args c cc nL Ts own D dA cl tA tyf B) (hA : kSt as B σ lv st h) (hdg : decode cc pc = .ok (i, len)) (h1 : kP1 i len pc σ = some q) : kGo p l e R s m args below meth c nL D dA cl tA B Q pc lv st h as σ q := by
  unfold kP1 at h1
  split at h1
  · rename_i z hz
    split at h1
    · rename_i v hv
      split at h1
      · rename_i hc
        cases h1
        intro k1 k2 kk
        have hg : xget lv z.1 = some (kRn as v) := by rw [hA.1, xget_rn, hv]; rfl
        refine xs_ld C (ix := z.1) (so := z.2.1) (len := len) (v := kRn as v) (by rw [hz, ← hc.1]) hg (by rw [kRn_sort]; exact hc.2) hdg (kk as lv (kRn as v :: st) h ⟨Nat.le_refl _, fun _ _ => rfl⟩ ⟨hA.1, by rw [hA.2.1]; rfl, hA.2.2.1, hA.2.2.2.1, fun w hw => ?_⟩)
        rcases List.mem_cons.mp hw with rfl | hw
        · exact kW_get hA.2.2.2.1 hv
        · exact hA.2.2.2.2 w hw
      · cases h1
    · cases h1
  · cases h1
theorem kStk_cons {S : List Value} {st : List Value} {v : Value} (h : st = (v :: S).map (kRn as)) : ∃ st_q, st = kRn as v :: st_q ∧ st_q = S.map (kRn as) := ⟨_, h, rfl⟩
theorem kP2_ok (C : xCx p s m args c cc nL Ts own D dA cl tA tyf B) (hA : kSt as B σ lv st h) (hdg : decode cc pc = .ok (i, len)) (h1 : kP2 nL i len pc σ = some q) : kGo p l e R s m args below meth c nL D dA cl tA B Q pc lv st h as σ q := by
  unfold kP2 at h1
  split at h1
  · rename_i z v S hz hS
    split at h1
    · rename_i hc
      cases h1
      intro k1 k2 kk
      have h2 := hA.2.1
      have h5 := hA.2.2.2.2
      rw [hS] at h2 h5
      obtain ⟨st_q, rfl, h21⟩ := kStk_cons h2
      refine xs_st C (ix := z.1) (so := z.2.1) (len := len) (by rw [hz, ← hc.1]) (by rw [kRn_sort]; exact hc.2.1) (by rw [kRn_cat]; exact hc.2.2) hdg (kk as _ st_q h ⟨Nat.le_refl _, fun _ _ => rfl⟩ ⟨?_, h21, hA.2.2.1, kW_set hA.2.2.2.1 (h5 v List.mem_cons_self), fun w hw => h5 w (List.mem_cons_of_mem _ hw)⟩)
      rw [hA.1, xset_rn]
    · cases h1
  · cases h1
theorem kP3_ok (C : xCx p s m args c cc nL Ts own D dA cl tA tyf B) (hG : aGd own Ts cl tA tyf meth s b M) (hA : kSt as B σ lv st h) (hdg : decode cc pc = .ok (i, len)) (h1 : kP3 nL M i len pc σ = some q) : kGo p l e R s m args below meth c nL D dA cl tA B Q pc lv st h as σ q := by
  unfold kP3 at h1
  have h2 := hA.2.1
  have h5 := hA.2.2.2.2
  split at h1
  · split at h1
    · rename_i v S hS
      split at h1
      · rename_i hc
        obtain ⟨rfl, hc⟩ := hc
        cases h1
        intro k1 k2 kk
        rw [hS] at h2 h5
        obtain ⟨st_q, rfl, h21⟩ := kStk_cons h2
        refine xs_stk C (st2 := kRn as v :: kRn as v :: st_q) (by simp only [xstk]; rw [if_pos (by rw [kRn_cat]; exact hc)]) hdg (kk as lv _ h ⟨Nat.le_refl _, fun _ _ => rfl⟩ ⟨hA.1, by rw [h21]; rfl, hA.2.2.1, hA.2.2.2.1, fun w hw => ?_⟩)
        rcases List.mem_cons.mp hw with rfl | hw
        · exact h5 w List.mem_cons_self
        · exact h5 w hw
      · cases h1
    · cases h1
  · rename_i ix z
    split at h1
    · rename_i x hx
      split at h1
      · rename_i hc
        obtain ⟨rfl, hc⟩ := hc
        cases h1
        intro k1 k2 kk
        refine xs_iinc C (x := x) (by rw [hA.1, xget_rn, hx]; rfl) hc hdg (kk as _ st h ⟨Nat.le_refl _, fun _ _ => rfl⟩ ⟨?_, hA.2.1, hA.2.2.1, kW_set (v := .int (x + Int32.ofInt z)) hA.2.2.2.1 (fun i hi => by cases hi), hA.2.2.2.2⟩)
        rw [hA.1, ← xset_rn]
        rfl
      · cases h1
    · cases h1
  · rename_i off
    split at h1
    · rename_i hc
      obtain ⟨rfl, hc⟩ := hc
      cases h1
      intro k1 k2 kk
      exact xs_goto C (tgt := ((pc : Int) + off).toNat) (by omega) hdg (kk as lv st h ⟨Nat.le_refl _, fun _ _ => rfl⟩ hA)
    · cases h1
  · rename_i cd off
    split at h1
    · rename_i y x S hS
      split at h1
      · rename_i hc
        obtain ⟨rfl, hc⟩ := hc
        cases h1
        intro k1 k2 kk
        rw [hS] at h2 h5
        obtain ⟨st1, rfl, h21⟩ := kStk_cons h2
        obtain ⟨st2, rfl, h22⟩ := kStk_cons h21
        have hk : kSt as B (σ.1, S, σ.2.2) lv st2 h := ⟨hA.1, h22, hA.2.2.1, hA.2.2.2.1, fun w hw => h5 w (List.mem_cons_of_mem _ (List.mem_cons_of_mem _ hw))⟩
        refine xs_icmp C (tgt := ((pc : Int) + off).toNat) (x := x) (y := y) (by omega) hdg (fun hx => ?_) (fun hx => ?_)
        · have := kk as lv st2 h ⟨Nat.le_refl _, fun _ _ => rfl⟩ hk
          rw [hx] at this
          exact this
        · have := kk as lv st2 h ⟨Nat.le_refl _, fun _ _ => rfl⟩ hk
          rw [hx] at this
          exact this
      · cases h1
    · cases h1
  · split at h1
    · rename_i y x S hS
      split at h1
      · rename_i hc
        subst hc
        cases h1
        intro k1 k2 kk
        rw [hS] at h2 h5
        obtain ⟨st1, rfl, h21⟩ := kStk_cons h2
        obtain ⟨st2, rfl, h22⟩ := kStk_cons h21
        refine xs_op2 C (a := .int x) (b := .int y) (v := .int (x - y)) rfl hdg (kk as lv _ h ⟨Nat.le_refl _, fun _ _ => rfl⟩ ⟨hA.1, by rw [h22]; rfl, hA.2.2.1, hA.2.2.2.1, fun w hw => ?_⟩)
        rcases List.mem_cons.mp hw with rfl | hw
        · intro i hi; cases hi
        · exact h5 w (List.mem_cons_of_mem _ (List.mem_cons_of_mem _ hw))
      · cases h1
    · cases h1
  · split at h1
    · rename_i y x S hS
      split at h1
      · rename_i z hz
        split at h1
        · rename_i hc
          subst hc
          cases h1
          intro k1 k2 kk
          rw [hS] at h2 h5
          obtain ⟨st1, rfl, h21⟩ := kStk_cons h2
          obtain ⟨st2, rfl, h22⟩ := kStk_cons h21
          refine xs_op2 C (a := .int x) (b := .int y) (v := .int z) hz hdg (kk as lv _ h ⟨Nat.le_refl _, fun _ _ => rfl⟩ ⟨hA.1, by rw [h22]; rfl, hA.2.2.1, hA.2.2.2.1, fun w hw => ?_⟩)
          rcases List.mem_cons.mp hw with rfl | hw
          · intro i hi; cases hi
          · exact h5 w (List.mem_cons_of_mem _ (List.mem_cons_of_mem _ hw))
        · cases h1
      · cases h1
    · cases h1
  · split at h1
    · rename_i z hz
      split at h1
      · rename_i hc
        subst hc
        cases h1
        intro k1 k2 kk
        obtain ⟨z_q, w1, w2⟩ := hG.2.2.2.2.2.1 _ (kF1_mem hz)
        dsimp only at w1 w2
        have : Int32.ofInt z = z_q := by rw [← w2]; exact Int32.ofInt_toInt z_q
        rw [this] at kk
        refine xs_ldc C w1 hdg (kk as lv _ h ⟨Nat.le_refl _, fun _ _ => rfl⟩ ⟨hA.1, by rw [hA.2.1]; rfl, hA.2.2.1, hA.2.2.2.1, fun w hw => ?_⟩)
        rcases List.mem_cons.mp hw with rfl | hw
        · intro i hi; cases hi
        · exact h5 w hw
      · cases h1
    · cases h1
  · cases h1
end KP
