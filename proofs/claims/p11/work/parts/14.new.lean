/-! ===== the checker: new cells, and switches ===== -/
def aNt : ArrayType → Option (Nat × Nat)
  | .int => some (1000, 0)
  | .long => some (1001, 1)
  | .byte => some (1002, 0)
  | .boolean => some (1003, 0)
  | _ => none
/-- the kind of the cells that are made at pc with n slots -/
def aSk (kd : List aKd) (si : List (Nat × Int)) (pc n : Nat) : Option Int := (si.find? (fun q => q.1 == pc && (match kd[q.2.toNat]? with | some K => K.2.1 == n | none => false))).map (fun q => q.2)
def aCs (R : aRg) (v : aV) : Bool := decide (v.1 = 0) && decide (v.2.1 = 0) && aZ R && decide (0 ≤ v.2.2) && decide (v.2.2 ≤ 60000000)
def asN (rc rs : Nat) (kd : List aKd) (M : aTb) (σ : aS) (i : Instr) (len pc : Nat) : Option (List (Nat × aS)) := match i with
  | .new idx => (match aF1 M.2.2.1 idx with
    | some q => if len = 3 ∧ σ.2.2.2.2.2.1 + 1 ≤ rc ∧ σ.2.2.2.2.2.2 + q.2 ≤ rs ∧ aZ σ.1 = true ∧ aWf σ = true ∧ (List.range q.2).all (fun j => Nat.ble (aTc M.2.1 q.1 j) 4) = true then
        some [(pc + 3, (σ.1, σ.2.1 + 1, σ.2.2.1, (2, σ.2.1, 0) :: σ.2.2.2.1, (σ.2.1, q.1, (List.range q.2).map (fun j => aDf (aTc M.2.1 q.1 j))) :: σ.2.2.2.2.1, σ.2.2.2.2.2.1 + 1, σ.2.2.2.2.2.2 + q.2))] else none
    | none => none)
  | .newarray at0 => (match aNt at0, σ.2.2.2.1 with
    | some t, ln :: S => if len = 2 ∧ aCs σ.1 ln = true ∧ σ.2.2.2.2.2.1 + 1 ≤ rc ∧ σ.2.2.2.2.2.2 + ln.2.2.toNat ≤ rs ∧ aWf (aWS σ S) = true then
        (match aSk kd M.2.2.2.2.1 pc ln.2.2.toNat with
        | some Ki => (match kd[Ki.toNat]? with
          | some K => if K.1 = t.1 ∧ K.2.1 = ln.2.2.toNat ∧ aInF σ.1 (t.2, 0, 0) (aKf K 0) = true then
              some [(pc + 2, (σ.1, σ.2.1 + 1, σ.2.2.1, (4, σ.2.1, Ki) :: S, σ.2.2.2.2.1, σ.2.2.2.2.2.1 + 1, σ.2.2.2.2.2.2 + ln.2.2.toNat))] else none
          | none => none)
        | none => if ln.2.2 ≤ 8 then some [(pc + 2, (σ.1, σ.2.1 + 1, σ.2.2.1, (2, σ.2.1, 0) :: S, (σ.2.1, t.1, List.replicate ln.2.2.toNat (t.2, 0, 0)) :: σ.2.2.2.2.1, σ.2.2.2.2.2.1 + 1, σ.2.2.2.2.2.2 + ln.2.2.toNat))] else none) else none
    | _, _ => none)
  | .anewarray idx => (match aF1 M.2.2.2.1 idx, aF1 M.2.2.2.2.1 pc, σ.2.2.2.1 with
    | some t, some Ki, ln :: S => (match kd[Ki.toNat]? with
      | some K => if len = 3 ∧ aCs σ.1 ln = true ∧ σ.2.2.2.2.2.1 + 1 ≤ rc ∧ σ.2.2.2.2.2.2 + ln.2.2.toNat ≤ rs ∧ aWf (aWS σ S) = true ∧ K.1 = t ∧ 2000 ≤ t ∧ K.2.1 = ln.2.2.toNat ∧ aInF σ.1 (3, 0, 0) (aKf K 0) = true then
          some [(pc + 3, (σ.1, σ.2.1 + 1, σ.2.2.1, (4, σ.2.1, Ki) :: S, σ.2.2.2.2.1, σ.2.2.2.2.2.1 + 1, σ.2.2.2.2.2.2 + ln.2.2.toNat))] else none
      | none => none)
    | _, _, _ => none)
  | _ => none
/-- a switch over a table -/
def aOne (σ : aS) (S : List aV) (a : Nat × Int) (lo hi : Int) (pc : Nat) (off : Int) : Option (List (Nat × aS)) := match aCut σ.1 a lo hi with
  | some R => (aTg pc off).map (fun tg => [(tg, aWR σ S R)])
  | none => some []
def aAll {β : Type} : List (Option (List β)) → Option (List β)
  | [] => some []
  | none :: _ => none
  | some x :: r => (aAll r).map (fun y => x ++ y)
def asX (σ : aS) (i : Instr) (pc : Nat) : Option (List (Nat × aS)) := match i with
  | .tableswitch dflt lo hi offs => (match σ.2.2.2.1 with
    | a :: S => if a.1 = 0 ∧ hi - lo < 64 ∧ (offs.size : Int) = hi - lo + 1 then
        aAll (aOne σ S a.2 (-2147483648) (lo - 1) pc dflt :: aOne σ S a.2 (hi + 1) 2147483647 pc dflt :: (List.range offs.size).map (fun (j : Nat) => aOne σ S a.2 (lo + j) (lo + j) pc (offs.getD j 0))) else none
    | [] => none)
  | _ => none
theorem aAll_in {β : Type} : ∀ {ls : List (Option (List β))} {r : List β}, aAll ls = some r → ∀ o ∈ ls, ∃ x, o = some x ∧ ∀ z ∈ x, z ∈ r
  | [], _, _, o, ho => by cases ho
  | none :: _, _, h, _, _ => by cases h
  | some x :: ls, r, h, o, ho => by
    simp only [aAll] at h
    cases e : aAll ls with
    | none => rw [e] at h; cases h
    | some y =>
      rw [e] at h
      cases h
      rcases List.mem_cons.mp ho with rfl | ho
      · exact ⟨x, rfl, fun z hz => List.mem_append_left _ hz⟩
      · obtain ⟨x_q, h1, h2⟩ := aAll_in e o ho
        exact ⟨x_q, h1, fun z hz => List.mem_append_right _ (h2 z hz)⟩
section XN
variable {p : Program} {l : Launch} {e : Env} {R0 : Room} {s : State} {m : MethodId} {args : Array Value} {below : List Frame} {meth : Method} {c : Code} {Q : State → Prop}
variable {cc : ByteArray} {nL : Nat} {Ts : List Cond} {own : String} {D : va_G} {dA : Nat → ClassId} {cl : List vw_C} {tA : List (Nat × FieldType)} {tyf : Nat → Nat → FieldType} {B : Nat}
variable {kd : List aKd} {b : aSc} {P : Nat → Prop} {h0 : xH} {ρ : Nat → Int} {α τ : Nat → Option Nat} {σ : aS} {pc len : Nat} {lv : List (Nat × Value)} {st : List Value} {h : xH} {i : Instr} {l1 : List (Nat × aS)}
variable {M : aTb} {rc rs : Nat}
theorem aSx_P {a : Nat} (hA : aSx kd B b P h0 ρ α τ σ lv st h) (ha : h a = none) : P a ∧ τ a = none := by
  refine ⟨?_, ?_⟩
  · apply Classical.byContradiction
    intro hp
    exact hp (hA.2.2.2 a (by rw [← (hA.2.1 a hp).1]; exact ha))
  · cases ht : τ a with
    | none => rfl
    | some K =>
      obtain ⟨q, V, -, -, h3, -⟩ := hA.1.2.2.2.2 a K ht
      rw [ha] at h3
      cases h3
theorem aSx_newo {a t : Nat} {fs : List aV} {V : Nat → Value} {k_q n_q : Nat} (hw : aWf σ = true) (hA : aSx kd B b P h0 ρ α τ σ lv st h) (ha : h a = none) (hB : B ≤ a) (hf : ∀ (j : Nat) (v : aV), fs[j]? = some v → aM ρ (aUp α σ.2.1 (some a)) τ b v (V j)) :
    aSame σ.1.length σ.2.1 ρ ρ α (aUp α σ.2.1 (some a)) ∧ aSx kd B b P h0 ρ (aUp α σ.2.1 (some a)) τ (σ.1, σ.2.1 + 1, σ.2.2.1, (2, σ.2.1, 0) :: σ.2.2.2.1, (σ.2.1, t, fs) :: σ.2.2.2.2.1, k_q, n_q) lv (.ref a :: st) (xput h a (t, fs.length, V)) := by
  obtain ⟨hP, hT⟩ := aSx_P hA ha
  have hs : aSame σ.1.length σ.2.1 ρ ρ α (aUp α σ.2.1 (some a)) := ⟨fun _ _ => rfl, fun k hk => aUp_ne _ _ (Nat.ne_of_lt hk)⟩
  obtain ⟨⟨g1, g2, g3, g4, g5⟩, g6, g7, g8⟩ := aSx_to (R_q := σ.1) (m_q := σ.2.1 + 1) hw hA hs hA.1.1
  refine ⟨hs, ⟨⟨g1, g2, ⟨⟨a, rfl, aUp_self _ _ _⟩, g3⟩, ⟨?_, ?_⟩, ?_⟩, ?_, ?_, g8⟩⟩
  · intro o ho
    rcases List.mem_cons.mp ho with rfl | ho
    · exact ⟨a, V, aUp_self _ _ _, hB, hT, by simp only [xput, if_true], hf⟩
    · obtain ⟨a_q, V_q, e1, e2, e3, e4, e5⟩ := g4.1 o ho
      have hne : a_q ≠ a := fun q => by rw [q, ha] at e4; cases e4
      exact ⟨a_q, V_q, e1, e2, e3, by simp only [xput, if_neg hne]; exact e4, e5⟩
  · rw [List.pairwise_cons]
    refine ⟨fun o ho => ?_, g4.2⟩
    obtain ⟨a_q, V_q, e1, e2, e3, e4, e5⟩ := g4.1 o ho
    rw [aUp_self, e1]
    intro q
    cases q
    rw [ha] at e4
    cases e4
  · intro a_q K_q h_q
    obtain ⟨q, V_q, h1, h2, h3, h4⟩ := g5 a_q K_q h_q
    have hne : a_q ≠ a := fun q => by rw [q, hT] at h_q; cases h_q
    exact ⟨q, V_q, h1, h2, by simp only [xput, if_neg hne]; exact h3, h4⟩
  · intro a_q hp
    have hne : a_q ≠ a := fun q => hp (by rw [q]; exact hP)
    simp only [xput, if_neg hne]
    exact g6 a_q hp
  · intro o ho a_q ha_q
    rcases List.mem_cons.mp ho with rfl | ho
    · rw [aUp_self] at ha_q
      cases ha_q
      exact hP
    · exact g7 o ho a_q ha_q
theorem aSx_newk {a : Nat} {Ki : Int} {K : aKd} {V : Nat → Value} {k_q n_q : Nat} (hw : aWf σ = true) (hA : aSx kd B b P h0 ρ α τ σ lv st h) (ha : h a = none) (hB : B ≤ a) (hK : kd[Ki.toNat]? = some K) (hf : ∀ j, j < K.2.1 → aFm τ (aKf K j) (V j)) :
    aSame σ.1.length σ.2.1 ρ ρ α (aUp α σ.2.1 (some a)) ∧ aSub τ (aUp τ a (some Ki.toNat)) ∧ aSx kd B b P h0 ρ (aUp α σ.2.1 (some a)) (aUp τ a (some Ki.toNat)) (σ.1, σ.2.1 + 1, σ.2.2.1, (4, σ.2.1, Ki) :: σ.2.2.2.1, σ.2.2.2.2.1, k_q, n_q) lv (.ref a :: st) (xput h a (K.1, K.2.1, V)) := by
  obtain ⟨hP, hT⟩ := aSx_P hA ha
  have hs : aSame σ.1.length σ.2.1 ρ ρ α (aUp α σ.2.1 (some a)) := ⟨fun _ _ => rfl, fun k hk => aUp_ne _ _ (Nat.ne_of_lt hk)⟩
  have hsub : aSub τ (aUp τ a (some Ki.toNat)) := fun a_q K_q h_q => by
    rw [aUp_ne _ _ (fun q => by rw [q, hT] at h_q; cases h_q)]
    exact h_q
  obtain ⟨w0, w1, w2, w3⟩ := aWf_parts hw
  obtain ⟨⟨g1, g2, g3, g4, g5⟩, g6, g7, g8⟩ := hA
  have hOa : ∀ o ∈ σ.2.2.2.2.1, ∀ a_q, α o.1 = some a_q → a_q ≠ a := fun o ho a_q ha_q q => by
    obtain ⟨a1, V_q, e1, e2, e3, e4, e5⟩ := g4.1 o ho
    rw [ha_q] at e1
    cases e1
    rw [q, ha] at e4
    cases e4
  have hO := aObs_to (b := b) (B := B) (h := h) hs hsub (fun o ho a_q ha_q => by rw [aUp_ne _ _ (hOa o ho a_q ha_q)]; exact aObs_null g4 o ho a_q ha_q) w3 g4
  have hk : ∀ o ∈ σ.2.2.2.2.1, aUp α σ.2.1 (some a) o.1 = α o.1 := fun o ho => by
    have := List.all_eq_true.mp w3 o ho
    simp only [Bool.and_eq_true] at this
    exact hs.2 _ ((Nat.blt_eq).mp this.1)
  refine ⟨hs, hsub, ⟨⟨g1, aLoc_to hs hsub w1 g2, ⟨⟨a, rfl, aUp_self _ _ _, aUp_self _ _ _⟩, aStk_to hs hsub w2 g3⟩, ⟨?_, hO.2⟩, ?_⟩, ?_, ?_, g8⟩⟩
  · intro o ho
    obtain ⟨a_q, V_q, e1, e2, e3, e4, e5⟩ := hO.1 o ho
    have hne : a_q ≠ a := hOa o ho a_q (by rw [← hk o ho]; exact e1)
    exact ⟨a_q, V_q, e1, e2, e3, by simp only [xput, if_neg hne]; exact e4, e5⟩
  · intro a_q K_q h_q
    by_cases he : a_q = a
    · subst he
      rw [aUp_self] at h_q
      cases h_q
      exact ⟨K, V, hK, hB, by simp only [xput, if_true], fun j hj => aFm_to hsub (hf j hj)⟩
    · rw [aUp_ne _ _ he] at h_q
      obtain ⟨q, V_q, h1, h2, h3, h4⟩ := g5 a_q K_q h_q
      exact ⟨q, V_q, h1, h2, by simp only [xput, if_neg he]; exact h3, fun j hj => aFm_to hsub (h4 j hj)⟩
  · intro a_q hp
    have hne : a_q ≠ a := fun q => hp (by rw [q]; exact hP)
    simp only [xput, if_neg hne, aUp_ne _ _ hne]
    exact g6 a_q hp
  · intro o ho a_q ha_q
    rw [hk o ho] at ha_q
    exact g7 o ho a_q ha_q
theorem aCs_ok {v : aV} {x : Value} (hR : aOkR σ.1 ρ) (hx : aM ρ α τ b v x) (h : aCs σ.1 v = true) : ∃ z : Int32, x = .int z ∧ ¬ z < 0 ∧ z.toNatClampNeg = v.2.2.toNat ∧ v.2.2.toNat ≤ 60000000 := by
  simp only [aCs, Bool.and_eq_true, decide_eq_true_eq] at h
  obtain ⟨⟨⟨⟨h1, h2⟩, h3⟩, h4⟩, h5⟩ := h
  obtain ⟨z, rfl, hz⟩ := aM_int hx h1
  have h00 := aZ_ok h3 hR
  rw [h2, h00] at hz
  refine ⟨z, rfl, fun q => ?_, ?_, by omega⟩
  · have := Int32.lt_iff_toInt_lt.mp q
    have e0 : (0 : Int32).toInt = 0 := by decide
    omega
  · unfold Int32.toNatClampNeg
    rw [hz]
    congr 1
    omega
theorem aDf_ok {k : Nat} {ty : FieldType} (hk : aTy k ty) (h4 : k ≤ 4) (h00 : ρ 0 = 0) : aM ρ α τ b (aDf k) (defaultValue ty) := by
  obtain ⟨k0, k1, k2, k3, k4⟩ := hk
  have hz : aM ρ α τ b (0, 0, 0) (.int 0) := ⟨0, rfl, by show _ = ρ 0 + 0; rw [h00]; decide⟩
  have hz1 : aM ρ α τ b (1, 0, 0) (.long 0) := ⟨0, rfl, by show _ = ρ 0 + 0; rw [h00]; decide⟩
  rcases (show k = 0 ∨ k = 1 ∨ k = 2 ∨ k = 3 ∨ k = 4 by omega) with rfl | rfl | rfl | rfl | rfl
  · rw [k0 rfl]; exact hz
  · rw [k1 rfl]; exact hz1
  · rw [k2 rfl]; exact hz
  · rw [k3 rfl]; exact hz
  · rcases k4 rfl with ⟨E, rfl⟩ | ⟨t, rfl⟩ <;> rfl
theorem aNt_ok {at0 : ArrayType} {t : Nat × Nat} (h : aNt at0 = some t) (hA4 : tA.take 4 = [(1000, .int), (1001, .long), (1002, .byte), (1003, .boolean)]) (hw : Cond.arrayClass .int ∈ Ts ∧ Cond.arrayClass .long ∈ Ts ∧ Cond.arrayClass .byte ∈ Ts ∧ Cond.arrayClass .boolean ∈ Ts) (h00 : ρ 0 = 0) :
    (t.1, newarray.typeOf at0) ∈ tA ∧ (∀ E, newarray.typeOf at0 ≠ .object E) ∧ Cond.arrayClass (newarray.typeOf at0) ∈ Ts ∧ componentBytes (newarray.typeOf at0) ≤ 8 ∧ (∀ τ_q : Nat → Option Nat, ∀ α_q : Nat → Option Nat, aM ρ α_q τ_q b (t.2, 0, 0) (defaultValue (newarray.typeOf at0))) ∧ 1000 ≤ t.1 := by
  have hm : ∀ q, q ∈ tA.take 4 → q ∈ tA := fun q hq => List.mem_of_mem_take hq
  rw [hA4] at hm
  have hz : ∀ τ_q α_q : Nat → Option Nat, aM ρ α_q τ_q b (0, 0, 0) (.int 0) := fun _ _ => ⟨0, rfl, by show _ = ρ 0 + 0; rw [h00]; decide⟩
  have hz1 : ∀ τ_q α_q : Nat → Option Nat, aM ρ α_q τ_q b (1, 0, 0) (.long 0) := fun _ _ => ⟨0, rfl, by show _ = ρ 0 + 0; rw [h00]; decide⟩
  unfold aNt at h
  split at h <;> first | (cases h; done) | skip
  · cases h; exact ⟨hm _ (by simp [newarray.typeOf]), (fun E q => by cases q), hw.1, by decide, hz, by decide⟩
  · cases h; exact ⟨hm _ (by simp [newarray.typeOf]), (fun E q => by cases q), hw.2.1, by decide, hz1, by decide⟩
  · cases h; exact ⟨hm _ (by simp [newarray.typeOf]), (fun E q => by cases q), hw.2.2.1, by decide, hz, by decide⟩
  · cases h; exact ⟨hm _ (by simp [newarray.typeOf]), (fun E q => by cases q), hw.2.2.2, by decide, hz, by decide⟩
theorem asN_ok (C : xCx p s m args c cc nL Ts own D dA cl tA tyf B) (hG : aGd own Ts cl tA tyf meth s b M) (hRc : rc ≤ R0.cells) (hRs : rs ≤ R0.slots) (hA : aSx kd B b P h0 ρ α τ σ lv st h) (hdg : decode cc pc = .ok (i, len)) (hs : asN rc rs kd M σ i len pc = some l1) (kk : (∀ q ∈ l1, ∀ (ρ_q : Nat → Int) (α_q τ_q : Nat → Option Nat) (lv_q : List (Nat × Value)) (st_q : List Value) (h_q : xH), aSame σ.1.length σ.2.1 ρ ρ_q α α_q → aSub τ τ_q → aSx kd B b P h0 ρ_q α_q τ_q q.2 lv_q st_q h_q → xSafe p l e R0 s m args below meth c nL D dA cl tA B Q q.1 lv_q st_q h_q q.2.2.2.2.2.2.1 q.2.2.2.2.2.2.2)) : xSafe p l e R0 s m args below meth c nL D dA cl tA B Q pc lv st h σ.2.2.2.2.2.1 σ.2.2.2.2.2.2 := by
  unfold asN at hs
  split at hs
  · split at hs
    · rename_i q hf
      split at hs
      · rename_i hc
        obtain ⟨hl, c1, c2, c3, c4, c5⟩ := hc
        subst hl
        cases hs
        obtain ⟨rr, hr, hN, w1, w2, w3⟩ := hG.2.2.1 _ (aF1_mem hf)
        dsimp only at hN hr
        have h00 := aZ_ok c3 hA.1.1
        refine xs_new C hr w1 w2 w3 (by omega) (by omega) hdg (fun a ha hB => ?_)
        have hfs : ∀ (j : Nat) (v : aV), ((List.range q.2).map (fun j => aDf (aTc M.2.1 q.1 j)))[j]? = some v → aM ρ (aUp α σ.2.1 (some a)) τ b v (defaultValue (tyf q.1 j)) := by
          intro j v hv
          rw [List.getElem?_map] at hv
          cases hj : (List.range q.2)[j]? with
          | none => rw [hj] at hv; cases hv
          | some j_q =>
            rw [hj] at hv
            cases hv
            have hlt := (List.getElem?_eq_some_iff.mp hj).1
            simp at hlt
            have hjj : j_q = j := by
              rw [List.getElem?_range hlt] at hj
              exact (Option.some.inj hj).symm
            subst hjj
            have h9 := List.all_eq_true.mp c5 j_q (List.mem_range.mpr hlt)
            exact aDf_ok (hG.2.1 _ _) (Nat.le_of_ble_eq_true h9) h00
        obtain ⟨e1, e2⟩ := aSx_newo (t := q.1) (k_q := σ.2.2.2.2.2.1 + 1) (n_q := σ.2.2.2.2.2.2 + q.2) c4 hA ha hB hfs
        simp only [List.length_map, List.length_range] at e2
        have := kk _ List.mem_cons_self ρ _ τ lv _ _ e1 aSub_rf e2
        rw [hN]
        exact this
      · cases hs
    · cases hs
  · rename_i at0
    split at hs
    · rename_i t ln S hnt hS
      split at hs
      · rename_i hc
        obtain ⟨hl, c1, c2, c3, c4⟩ := hc
        subst hl
        have h3 := hA.1.2.2.1
        rw [hS] at h3
        obtain ⟨x, st_q, rfl, hx, h4⟩ := aStk_cons h3
        obtain ⟨z, rfl, hz0, hzn, hzb⟩ := aCs_ok (σ := σ) hA.1.1 hx c1
        have hz1 := c1
        simp only [aCs, Bool.and_eq_true, decide_eq_true_eq] at hz1
        have h00 := aZ_ok hz1.1.1.2 hA.1.1
        have hA2 : aSx kd B b P h0 ρ α τ (aWS σ S) lv st_q h := ⟨⟨hA.1.1, hA.1.2.1, h4, hA.1.2.2.2⟩, hA.2⟩
        obtain ⟨n1, n2, n3, n4, n5, n6⟩ := aNt_ok (b := b) hnt hG.2.2.2.2.1.1 ⟨hG.2.2.2.2.1.2.1, hG.2.2.2.2.1.2.2.1, hG.2.2.2.2.1.2.2.2.1, hG.2.2.2.2.1.2.2.2.2.1⟩ h00
        have hbytes : z.toNatClampNeg * componentBytes (newarray.typeOf at0) ≤ 536870912 := by
          rw [hzn]
          exact Nat.le_trans (Nat.mul_le_mul hzb n4) (by decide)
        split at hs
        · rename_i Ki hsite
          split at hs
          · rename_i K hK
            split at hs
            · rename_i hc2
              obtain ⟨d1, d2, d3⟩ := hc2
              cases hs
              refine xs_newa C n1 n2 n3 hz0 hbytes (by omega) (by rw [hzn]; omega) hdg (fun a ha hB => ?_)
              have hff : ∀ j, j < K.2.1 → aFm τ (aKf K j) (defaultValue (newarray.typeOf at0)) := fun j _ => by
                have h9 := aInF_ok hA.1.1 (n5 τ α) d3
                unfold aKf at h9 ⊢
                rw [if_neg (by omega)] at h9 ⊢
                exact h9
              obtain ⟨e1, e2, e3⟩ := aSx_newk (V := fun _ => defaultValue (newarray.typeOf at0)) (k_q := σ.2.2.2.2.2.1 + 1) (n_q := σ.2.2.2.2.2.2 + ln.2.2.toNat) c4 hA2 ha hB hK hff
              rw [d1, d2] at e3
              have := kk _ List.mem_cons_self ρ _ _ lv _ _ e1 e2 e3
              rw [← hzn] at this
              exact this
            · cases hs
          · cases hs
        · split at hs
          · rename_i h8
            cases hs
            refine xs_newa C n1 n2 n3 hz0 hbytes (by omega) (by rw [hzn]; omega) hdg (fun a ha hB => ?_)
            have hfs : ∀ (j : Nat) (v : aV), (List.replicate ln.2.2.toNat ((t.2, 0, 0) : aV))[j]? = some v → aM ρ (aUp α σ.2.1 (some a)) τ b v (defaultValue (newarray.typeOf at0)) := by
              intro j v hv
              have h9 := List.mem_of_getElem? hv
              rw [List.mem_replicate] at h9
              rw [h9.2]
              exact n5 _ _
            obtain ⟨e1, e2⟩ := aSx_newo (t := t.1) (V := fun _ => defaultValue (newarray.typeOf at0)) (k_q := σ.2.2.2.2.2.1 + 1) (n_q := σ.2.2.2.2.2.2 + ln.2.2.toNat) c4 hA2 ha hB hfs
            rw [List.length_replicate] at e2
            have := kk _ List.mem_cons_self ρ _ τ lv _ _ e1 aSub_rf e2
            rw [← hzn] at this
            exact this
          · cases hs
      · cases hs
    · cases hs
  · split at hs
    · rename_i t Ki ln S hnt hsite hS
      split at hs
      · rename_i K hK
        split at hs
        · rename_i hc
          obtain ⟨hl, c1, c2, c3, c4, d1, d0, d2, d3⟩ := hc
          subst hl
          cases hs
          have h3 := hA.1.2.2.1
          rw [hS] at h3
          obtain ⟨x, st_q, rfl, hx, h4⟩ := aStk_cons h3
          obtain ⟨z, rfl, hz0, hzn, hzb⟩ := aCs_ok (σ := σ) hA.1.1 hx c1
          have hA2 : aSx kd B b P h0 ρ α τ (aWS σ S) lv st_q h := ⟨⟨hA.1.1, hA.1.2.1, h4, hA.1.2.2.2⟩, hA.2⟩
          obtain ⟨E, n1, n2, n3⟩ := hG.2.2.2.1 _ (aF1_mem hnt)
          have hbytes : z.toNatClampNeg * 4 ≤ 536870912 := by rw [hzn]; omega
          refine xs_anew C n1 n2 n3 hz0 hbytes (by omega) (by rw [hzn]; omega) hdg (fun a ha hB => ?_)
          have hff : ∀ j, j < K.2.1 → aFm τ (aKf K j) .null := fun j _ => by
            have h9 := aInF_ok (α := α) (τ := τ) (b := b) (x := .null) hA.1.1 (show aM ρ α τ b (3, 0, 0) .null from rfl) d3
            unfold aKf at h9 ⊢
            rw [if_neg (by omega)] at h9 ⊢
            exact h9
          obtain ⟨e1, e2, e3⟩ := aSx_newk (V := fun _ => .null) (k_q := σ.2.2.2.2.2.1 + 1) (n_q := σ.2.2.2.2.2.2 + ln.2.2.toNat) c4 hA2 ha hB hK hff
          rw [d1, d2] at e3
          have := kk _ List.mem_cons_self ρ _ _ lv _ _ e1 e2 e3
          rw [← hzn] at this
          exact this
        · cases hs
      · cases hs
    · cases hs
  · cases hs
theorem asX_ok (C : xCx p s m args c cc nL Ts own D dA cl tA tyf B) (hA : aSx kd B b P h0 ρ α τ σ lv st h) (hdg : decode cc pc = .ok (i, len)) (hs : asX σ i pc = some l1) (kk : (∀ q ∈ l1, ∀ (ρ_q : Nat → Int) (α_q τ_q : Nat → Option Nat) (lv_q : List (Nat × Value)) (st_q : List Value) (h_q : xH), aSame σ.1.length σ.2.1 ρ ρ_q α α_q → aSub τ τ_q → aSx kd B b P h0 ρ_q α_q τ_q q.2 lv_q st_q h_q → xSafe p l e R0 s m args below meth c nL D dA cl tA B Q q.1 lv_q st_q h_q q.2.2.2.2.2.2.1 q.2.2.2.2.2.2.2)) : xSafe p l e R0 s m args below meth c nL D dA cl tA B Q pc lv st h σ.2.2.2.2.2.1 σ.2.2.2.2.2.2 := by
  unfold asX at hs
  split at hs
  · rename_i dflt lo hi offs
    split at hs
    · rename_i a S hS
      split at hs
      · rename_i hc
        obtain ⟨hc1, hc2, hc3⟩ := hc
        have h3 := hA.1.2.2.1
        rw [hS] at h3
        obtain ⟨x, st_q, rfl, hx, h4⟩ := aStk_cons h3
        obtain ⟨z, rfl, hz⟩ := aM_int hx hc1
        have hall := aAll_in hs
        have hzb := aI32 z
        have one : ∀ (lo1 hi1 off : Int), aOne σ S a.2 lo1 hi1 pc off ∈ aOne σ S a.2 (-2147483648) (lo - 1) pc dflt :: aOne σ S a.2 (hi + 1) 2147483647 pc dflt :: (List.range offs.size).map (fun (j : Nat) => aOne σ S a.2 (lo + j) (lo + j) pc (offs.getD j 0)) → lo1 ≤ z.toInt → z.toInt ≤ hi1 → ∃ tg : Nat, (pc : Int) + off = (tg : Int) ∧ xSafe p l e R0 s m args below meth c nL D dA cl tA B Q tg lv st_q h σ.2.2.2.2.2.1 σ.2.2.2.2.2.2 := by
          intro lo1 hi1 off hm g1 g2
          obtain ⟨x1, h5, h6⟩ := hall _ hm
          rw [hz] at g1 g2
          obtain ⟨R_q, r1, r2, r3⟩ := aCut_ok (v := a.2) hA.1.1 g1 g2
          unfold aOne at h5
          rw [r1] at h5
          dsimp only at h5
          cases ht : aTg pc off with
          | none => rw [ht] at h5; cases h5
          | some tg =>
            rw [ht] at h5
            cases h5
            exact ⟨tg, aTg_ok ht, kk _ (h6 _ List.mem_cons_self) ρ α τ lv st_q h aSame_rf aSub_rf ⟨⟨r2, hA.1.2.1, h4, hA.1.2.2.2⟩, hA.2⟩⟩
        by_cases hlo : z.toInt < lo ∨ hi < z.toInt
        · have hd : ∃ tg : Nat, (pc : Int) + dflt = (tg : Int) ∧ xSafe p l e R0 s m args below meth c nL D dA cl tA B Q tg lv st_q h σ.2.2.2.2.2.1 σ.2.2.2.2.2.2 := by
            rcases hlo with h5 | h5
            · exact one _ _ _ List.mem_cons_self (by omega) (by omega)
            · exact one _ _ _ (List.mem_cons_of_mem _ List.mem_cons_self) (by omega) (by omega)
          obtain ⟨tg, h5, h6⟩ := hd
          exact xs_tab C (tgt := tg) hdg (fun off ho => by rw [if_pos hlo] at ho; rw [ho]; exact ⟨h5, h6⟩) (fun q => absurd hlo q)
        · have hj : (z.toInt - lo).toNat < offs.size := by omega
          have he : offs[(z.toInt - lo).toNat]? = some (offs.getD (z.toInt - lo).toNat 0) := by
            rw [Array.getD_eq_getD_getElem?, Array.getElem?_eq_getElem hj]
            rfl
          obtain ⟨tg, h5, h6⟩ := one (lo + ((z.toInt - lo).toNat : Nat)) (lo + ((z.toInt - lo).toNat : Nat)) (offs.getD (z.toInt - lo).toNat 0) (List.mem_cons_of_mem _ (List.mem_cons_of_mem _ (List.mem_map.mpr ⟨_, List.mem_range.mpr hj, rfl⟩))) (by omega) (by omega)
          exact xs_tab C (tgt := tg) hdg (fun off ho => by rw [if_neg hlo, he] at ho; cases ho; exact ⟨h5, h6⟩) (fun _ => ⟨_, he⟩)
      · cases hs
    · cases hs
  · cases hs
end XN
