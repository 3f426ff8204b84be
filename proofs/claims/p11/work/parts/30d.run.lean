/-! ===== runs with calls ===== -/
/-- what a run gives: the answer, the cells, how many -/
abbrev kR : Type := Option Value × List (Nat × kC) × Nat
abbrev kF : Type := Nat → List Value → List (Nat × kC) → Nat → Option kR
noncomputable def kRf : List Value → Bool
  | .ref _ :: _ => true
  | _ => false
noncomputable def kCat (S : List Value) : Nat := (S.map fun v => v.category).sum
/-- a call: of what makes an object, of a method without an object, of the method fl that fills an array with -1 -/
noncomputable def kCl (fl : Nat) (mx : List Nat) (rm : List (Nat × Nat)) (call : kF) (iv : List aIv) (i : Instr) (len pc : Nat) (σ : kS) : Option (Nat × kS) := match aXx i with
  | some t => (match iv.find? (fun q => q.1 == t.1) with
    | some q => if len = 3 ∧ aXs t.2 q.2.1 = true ∧ q.2.2.1 ≤ σ.2.1.length ∧ kCat (σ.2.1.drop q.2.2.1) ≤ 8 then
        (if q.2.1 = 4 then (match σ.2.1 with
          | .ref _ :: S => if q.2.2.1 = 1 then some (pc + 3, σ.1, S, σ.2.2) else none
          | _ => none)
        else if q.2.1 = 1 ∧ q.2.2.2.2.1 = fl then (match σ.2.1 with
          | .int z :: .ref a :: S => (match kGet σ.2.2.1 a with
            | some c => if q.2.2.1 = 2 ∧ z = -1 ∧ c.1 = 1000 ∧ -1 ≤ c.2.2.2.1 ∧ c.2.2.2.2 ≤ 0 ∧ mx.getD fl 0 ≤ 40 ∧ c.2.1 ∈ [64, 512, 2048, 4096] then some (pc + 3, σ.1, S, kSet σ.2.2.1 a (1000, c.2.1, c.2.2.1, -1, 0), σ.2.2.2) else none
            | none => none)
          | _ => none)
        else if q.2.1 = 1 ∨ ((q.2.1 = 2 ∨ q.2.1 = 3) ∧ kRf (σ.2.1.take q.2.2.1).reverse = true) then
          (if mx.getD q.2.2.2.2.1 0 ≤ 40 then (match call q.2.2.2.2.1 (σ.2.1.take q.2.2.1).reverse σ.2.2.1 σ.2.2.2.1 with
            | some r => some (pc + 3, σ.1, r.1.toList ++ σ.2.1.drop q.2.2.1, r.2.1, r.2.2, σ.2.2.2.2.1 + (rm.getD q.2.2.2.2.1 (0, 0)).1, σ.2.2.2.2.2 + (rm.getD q.2.2.2.2.1 (0, 0)).2)
            | none => none) else none)
        else none) else none
    | none => none)
  | none => none
/-- which step serves -/
noncomputable def kSo : Instr → Nat
  | .iconst _ => 1
  | .bipush _ => 1
  | .sipush _ => 1
  | .aload_n _ => 2
  | .iload_n _ => 2
  | .aload _ => 2
  | .iload _ => 2
  | .astore_n _ => 3
  | .istore_n _ => 3
  | .astore _ => 3
  | .istore _ => 3
  | .dup => 4
  | .iinc _ _ => 4
  | .goto _ => 4
  | .if_icmp _ _ => 4
  | .isub => 4
  | .ishl => 4
  | .ldc _ => 4
  | .getfield _ => 5
  | .putfield _ => 5
  | .new _ => 5
  | .newarray _ => 5
  | .anewarray _ => 5
  | .aastore => 5
  | .return_ => 6
  | .ireturn => 6
  | _ => 0
noncomputable def kOneF (nL : Nat) (M : aTb) (i : Instr) (len pc : Nat) (σ : kS) : Option (Nat × kS) :=
  @Nat.rec (fun _ => Option (Nat × kS)) none (fun a _ => @Nat.rec (fun _ => Option (Nat × kS)) (kP0 i len pc σ) (fun a _ => @Nat.rec (fun _ => Option (Nat × kS)) (kP1 i len pc σ) (fun a _ => @Nat.rec (fun _ => Option (Nat × kS)) (kP2 nL i len pc σ) (fun a _ => @Nat.rec (fun _ => Option (Nat × kS)) (kP3 nL M i len pc σ) (fun a _ => @Nat.rec (fun _ => Option (Nat × kS)) (kP4 M i len pc σ) (fun _ _ => none) a) a) a) a) a) (kSo i)
/-- the run up to a place at which stop holds -/
noncomputable def kTo (fl : Nat) (mx : List Nat) (rm : List (Nat × Nat)) (rc rs : Nat) (call : kF) (stop : Nat → Instr → Bool) (Bd : aBd) : Nat → Nat → kS → Option (Nat × kS)
  | 0, _, _ => none
  | f + 1, pc, σ => match kF1 Bd.2.1 pc with
    | some il => if stop pc il.1 = true then (if Nat.ble σ.2.2.2.2.1 rc = true ∧ Nat.ble σ.2.2.2.2.2 rs = true then some (pc, σ) else none) else (match aOr (kOneF Bd.1 Bd.2.2.1 il.1 il.2 pc σ) (kCl fl mx rm call Bd.2.2.2.1 il.1 il.2 pc σ) with
      | some q => if Nat.ble q.2.2.2.2.2.1 rc = true ∧ Nat.ble q.2.2.2.2.2.2 rs = true then kPl q (fun pc σ => kTo fl mx rm rc rs call stop Bd f pc σ) else none
      | none => none)
    | none => none
noncomputable def kIsR (_ : Nat) (i : Instr) : Bool := Nat.beq (kSo i) 6
/-- the answer at the end of a run -/
noncomputable def kEnd (Bd : aBd) (q : Nat × kS) : Option kR := match kF1 Bd.2.1 q.1 with
  | some (.return_, 1) => (match q.2.2.1 with | [] => if Bd.2.2.2.2.2.2 = 5 then some (none, q.2.2.2.1, q.2.2.2.2.1) else none | _ => none)
  | some (.ireturn, 1) => (match q.2.2.1 with | [.int z] => if Bd.2.2.2.2.2.2 = 0 then some (some (.int z), q.2.2.2.1, q.2.2.2.2.1) else none | _ => none)
  | _ => none
noncomputable def kCall (fl : Nat) (mx : List Nat) (rm : List (Nat × Nat)) (bds : List aBd) : Nat → kF
  | 0 => fun _ _ _ _ => none
  | d + 1 => fun mi av cs n => match bds[mi]? with
    | some Bd => if (av.map fun v => v.category).sum ≤ mx.getD mi 0 ∧ Bd.2.2.2.2.2.1.isEmpty = true then (match kTo fl mx rm (rm.getD mi (0, 0)).1 (rm.getD mi (0, 0)).2 (kCall fl mx rm bds d) kIsR Bd 4000 0 (lv_args 0 av, [], cs, n, 0, 0) with
      | some q => kEnd Bd q
      | none => none) else none
    | none => none
noncomputable def kRm (rm : List (Nat × Nat)) (d mi : Nat) : Room := { frames := d, cells := (rm.getD mi (0, 0)).1, slots := (rm.getD mi (0, 0)).2, locals := 64 * d }
/-- how a run has ended -/
noncomputable def kQ (as : Nat → Nat) (B n : Nat) (r : kR) : Option Value → xH → Prop := fun v h_q => n ≤ r.2.2 ∧ ∃ as_q : Nat → Nat, (∀ i, i < n → as_q i = as i) ∧ v = r.1.map (kRn as_q) ∧ (∀ w, r.1 = some w → kW r.2.2 w) ∧ kRel as_q B r.2.2 r.2.1 h_q
/-- the contract of the method that fills -/
noncomputable def kFill (D : va_G) (dA : Nat → ClassId) (cl : List vw_C) (tA : List (Nat × FieldType)) (B : Nat) (nw : List Cond) (nc : List (String × String)) (ao : List String) (W0 : List Cond) (l : Launch) (mth : List aMd) (fl : Nat) : Prop :=
  ∀ (d : aMd), mth[fl]? = some d → ∀ (h : xH) (a N : Nat) (V : Nat → Value), N ∈ [64, 512, 2048, 4096] → B ≤ a → h a = some (1000, N, V) → (∀ j, j < N → ∃ z : Int32, V j = .int z ∧ -1 ≤ z.toInt ∧ z.toInt ≤ 0) →
    ∃ (rm : Room) (Qf : Option Value → xH → Prop) (Xf : String → xH → Prop), (rm.frames = 0 ∧ rm.cells = 0 ∧ rm.slots = 0 ∧ rm.locals = 0) ∧ xMet D dA cl tA B nw nc ao W0 l d.1 (aCw d) rm [.ref a, .int (-1)] h Qf Xf ∧
      (∀ v h_q, Qf v h_q → v = none ∧ (∀ q, q ≠ a → h q ≠ none → h_q q = h q) ∧ ∃ V_q, h_q a = some (1000, N, V_q) ∧ ∀ j, j < N → ∃ z : Int32, V_q j = .int z ∧ -1 ≤ z.toInt ∧ z.toInt ≤ 0) ∧ ∀ E h_q, ¬ Xf E h_q
theorem kRel_same {as : Nat → Nat} {B n : Nat} {cs : List (Nat × kC)} {h h_q : xH} (hR : kRel as B n cs h) (hs : ∀ i, i < n → kGet cs i ≠ none → h_q (as i) = h (as i)) : kRel as B n cs h_q := ⟨fun i hi c hc => by
  obtain ⟨h1, h3⟩ := hR.1 i hi c hc
  exact ⟨h1, by rw [hs i hi (by rw [hc]; exact fun q => by cases q)]; exact h3⟩, hR.2⟩
section KC
variable {p : Program} {l : Launch} {e : Env} {R : Room} {s : State} {m : MethodId} {args : Array Value} {below : List Frame} {meth : Method} {c : Code} {Q : State → Prop}
variable {cc : ByteArray} {nL : Nat} {Ts : List Cond} {own : String} {D : va_G} {dA : Nat → ClassId} {cl : List vw_C} {tA : List (Nat × FieldType)} {tyf : Nat → Nat → FieldType} {B : Nat} {nw : List Cond} {nc : List (String × String)} {ao : List String} {W0 : List Cond}
variable {pc len : Nat} {lv : List (Nat × Value)} {st : List Value} {h : xH} {i : Instr} {as : Nat → Nat} {σ : kS} {q : Nat × kS} {b : aSc} {M : aTb} {mth : List aMd} {mx : List Nat} {fl d0 : Nat} {call : kF} {iv : List aIv} {xn : List String} {rm : List (Nat × Nat)} {rc rs : Nat}
/-- the contracts of all methods at a depth -/
noncomputable def kSnd (D : va_G) (dA : Nat → ClassId) (cl : List vw_C) (tA : List (Nat × FieldType)) (B : Nat) (nw : List Cond) (nc : List (String × String)) (ao : List String) (W0 : List Cond) (l : Launch) (mth : List aMd) (rm : List (Nat × Nat)) (call : kF) (d0 : Nat) : Prop :=
  ∀ (mi : Nat) (d : aMd), mth[mi]? = some d → ∀ (av : List Value) (cs : List (Nat × kC)) (n : Nat) (r : kR), call mi av cs n = some r → ∀ (as : Nat → Nat) (h : xH), kRel as B n cs h → (∀ v ∈ av, kW n v) →
    xMet D dA cl tA B nw nc ao W0 l d.1 (aCw d) (kRm rm d0 mi) (av.map (kRn as)) h (kQ as B n r) (fun _ _ => False)
theorem kCat_rn {S : List Value} : ((S.map (kRn as)).map fun v => v.category).sum = kCat S := by
  unfold kCat
  rw [List.map_map]
  congr 1
  refine List.map_congr_left (fun v _ => ?_)
  exact kRn_cat
theorem kCl_ok (C : xCx p s m args c cc nL Ts own D dA cl tA tyf B) (hE : xEnv D dA cl tA B nw nc ao s) (hIv : ∀ q ∈ iv, aIg own Ts cl nw W0 mth mx q) (hS : kSnd D dA cl tA B nw nc ao W0 l mth rm call d0) (hF : kFill D dA cl tA B nw nc ao W0 l mth fl) (hfr : d0 + 1 ≤ R.frames) (hlo : 64 * (d0 + 1) ≤ R.locals)
    (hA : kSt as B σ lv st h) (hdg : decode cc pc = .ok (i, len)) (h1 : kCl fl mx rm call iv i len pc σ = some q) : kGo p l e R s m args below meth c nL D dA cl tA B Q pc lv st h as σ q := by
  unfold kCl at h1
  split at h1
  · rename_i t ht
    split at h1
    · rename_i q0 hq
      split at h1
      · rename_i hc0
        obtain ⟨rfl, hsort, hlen, hcat⟩ := hc0
        have hqm := List.mem_of_find?_eq_some hq
        have hq1 : q0.1 = t.1 := by simpa using List.find?_some hq
        have hg := hIv q0 hqm
        have hdi : (t.2 = 1 → i = .invokestatic q0.1) ∧ (t.2 = 2 → i = .invokespecial q0.1) := by
          unfold aXx at ht
          split at ht <;> first | (cases ht; done) | skip
          · cases ht; rw [hq1]; exact ⟨(fun q => by cases q), (fun q => by cases q)⟩
          · cases ht; rw [hq1]; exact ⟨fun _ => rfl, (fun q => by cases q)⟩
          · cases ht; rw [hq1]; exact ⟨(fun q => by cases q), fun _ => rfl⟩
        have h2 := hA.2.1
        have h5 := hA.2.2.2.2
        split at h1
        · rename_i hk4
          split at h1
          · rename_i a S hS0
            split at h1
            · rename_i hna
              cases h1
              intro k1 k2 kk
              unfold aIg at hg
              rw [if_pos hk4] at hg
              have hi := hdi.2 (by rw [hk4] at hsort; exact Nat.eq_of_beq_eq_true hsort)
              subst hi
              rw [hS0, hna] at hcat
              rw [hS0] at h2 h5
              obtain ⟨st_q, rfl, h21⟩ := kStk_cons h2
              refine xs_objInit C hg.1 hg.2.1 hg.2.2 (by omega) ?_ hdg (kk as lv st_q h ⟨Nat.le_refl _, fun _ _ => rfl⟩ ⟨hA.1, h21, hA.2.2.1, hA.2.2.2.1, fun w hw => h5 w (List.mem_cons_of_mem _ hw)⟩)
              rw [h21, kCat_rn]
              have hcat : kCat S ≤ 8 := hcat
              omega
            · cases h1
          · cases h1
        · rename_i hk4
          unfold aIg at hg
          rw [if_neg hk4] at hg
          obtain ⟨d, hd, hmx, hgi, hini, hg⟩ := hg
          split at h1
          · rename_i hkf
            obtain ⟨hk1, hkf⟩ := hkf
            split at h1
            · rename_i z a S hS0
              split at h1
              · rename_i c0 hc0
                split at h1
                · rename_i hcc
                  obtain ⟨hna, rfl, hc1, hc2, hc3, hmx40, hmem⟩ := hcc
                  cases h1
                  intro k1 k2 kk
                  rw [hk1] at hg
                  obtain ⟨g0, g1, g2, g7⟩ := hg
                  have hi := hdi.1 (by rw [hk1] at hsort; exact Nat.eq_of_beq_eq_true hsort)
                  subst hi
                  have hcw : aCw d = .code d.1 d.2.1 d.2.2.1 d.2.2.2.1 := by unfold aCw; rw [if_pos g0]
                  rw [hS0, hna] at hcat
                  rw [hS0] at h2 h5
                  obtain ⟨st1, rfl, h21⟩ := kStk_cons h2
                  obtain ⟨st_q, rfl, h22⟩ := kStk_cons h21
                  have ha := kW_ref (h5 (.ref a) (List.mem_cons_of_mem _ List.mem_cons_self))
                  obtain ⟨m1, V, m2, -, m3⟩ := kCell hA ha hc0
                  rw [hc1] at m2
                  have hV : ∀ j, j < c0.2.1 → ∃ z : Int32, V j = .int z ∧ -1 ≤ z.toInt ∧ z.toInt ≤ 0 := fun j hj => by
                    have := m3 (by omega) (by omega) j hj
                    unfold kNm at this
                    rw [if_neg (by omega)] at this
                    obtain ⟨z, z1, z2, z3⟩ := this
                    exact ⟨z, z1, by omega, by omega⟩
                  obtain ⟨rmF, Qf, Xf, ⟨r1, r2, r3, r4⟩, hcon, hQf, hXf⟩ := hF d (by rw [← hkf]; exact hd) h (as a) c0.2.1 V hmem m1 m2 hV
                  rw [hcw] at hcon hgi
                  have hmx_q : d.2.2.1 ≤ 40 := by rw [← hmx, hkf]; exact hmx40
                  have hcat : kCat S ≤ 8 := hcat
                  refine xs_callS (As := [.ref (as a), .int (-1)]) C hE hcon hgi g1 g2 hini g7 (by rw [hna]; rfl) ⟨by rw [r1]; omega, by rw [r4]; omega, by rw [r2]; exact k1, by rw [r3]; exact k2⟩ (by rw [h22, kCat_rn]; exact hcat) hdg (fun v h9 hq9 => ?_) (fun E h9 hf => (hXf E h9 hf).elim)
                  obtain ⟨rfl, hs9, V_q, hV1, hV_q⟩ := hQf v h9 hq9
                  have hA2 : kSt as B (σ.1, S, σ.2.2) lv st_q h := ⟨hA.1, h22, hA.2.2.1, hA.2.2.2.1, fun w hw => h5 w (List.mem_cons_of_mem _ (List.mem_cons_of_mem _ hw))⟩
                  have hput := kSt_put (c_q := (1000, c0.2.1, c0.2.2.1, -1, 0)) (V := V_q) hA2 ha hc0 ⟨V_q, rfl, (fun hx => by rcases hx with hx | hx <;> (dsimp only at hx; omega)), fun _ _ j hj => by
                    unfold kNm
                    rw [if_neg (by show ¬ ((1000 : Nat) = 1001); decide)]
                    exact hV_q j hj⟩
                  have hsame : ∀ j, j < σ.2.2.2.1 → kGet (kSet σ.2.2.1 a (1000, c0.2.1, c0.2.2.1, -1, 0)) j ≠ none → h9 (as j) = xput h (as a) (1000, c0.2.1, V_q) (as j) := fun j hj nj => by
                    by_cases e : j = a
                    · subst e
                      rw [hV1]
                      simp [xput]
                    · rw [(kGet_set hc0).2 j e] at nj
                      have hne : as j ≠ as a := fun q => e (hA.2.2.1.2 j a hj ha nj (by rw [hc0]; exact fun q => by cases q) q)
                      simp only [xput]
                      rw [if_neg hne]
                      refine hs9 _ hne ?_
                      cases hgj : kGet σ.2.2.1 j with
                      | none => exact absurd hgj nj
                      | some cj =>
                        obtain ⟨-, Vj, hj1, -⟩ := hA.2.2.1.1 j hj cj hgj
                        rw [hj1]
                        exact fun q => by cases q
                  have hfin : kSt as B (σ.1, S, kSet σ.2.2.1 a (1000, c0.2.1, c0.2.2.1, -1, 0), σ.2.2.2) lv st_q h9 := ⟨hput.1, hput.2.1, kRel_same hput.2.2.1 hsame, hput.2.2.2⟩
                  have := kk as lv st_q h9 ⟨Nat.le_refl _, fun _ _ => rfl⟩ hfin
                  rw [r2, r3]
                  exact this
                · cases h1
              · cases h1
            · cases h1
          · split at h1
            · rename_i hkk
              split at h1
              · rename_i hmx40
                split at h1
                · rename_i r hr
                  cases h1
                  have hav : ∀ v ∈ (σ.2.1.take q0.2.2.1).reverse, kW σ.2.2.2.1 v := fun v hv => h5 v (List.mem_of_mem_take (List.mem_reverse.mp hv))
                  have hcon := hS q0.2.2.2.2.1 d hd _ _ _ r hr as h hA.2.2.1 hav
                  intro k1 k2 kk
                  have hst : st = (((σ.2.1.take q0.2.2.1).reverse.map (kRn as)).reverse) ++ (σ.2.1.drop q0.2.2.1).map (kRn as) := by
                    rw [h2, List.map_reverse, List.reverse_reverse, ← List.map_append, List.take_append_drop]
                  have hmx_q : d.2.2.1 ≤ 40 := by rw [← hmx]; exact hmx40
                  have hrm : xRm R σ.2.2.2.2.1 σ.2.2.2.2.2 (kRm rm d0 q0.2.2.2.2.1) d.2.2.1 := ⟨hfr, (by show 8 + (d.2.2.1 + 11) + 64 * d0 ≤ R.locals; omega), k1, k2⟩
                  have hsum : (((σ.2.1.drop q0.2.2.1).map (kRn as)).map fun v => v.category).sum ≤ 8 := by rw [kCat_rn]; exact hcat
                  have kr : ∀ (v : Option Value) (h9 : xH), kQ as B σ.2.2.2.1 r v h9 → xSafe p l e R s m args below meth c nL D dA cl tA B Q (pc + 3) lv (v.toList ++ (σ.2.1.drop q0.2.2.1).map (kRn as)) h9 (σ.2.2.2.2.1 + (kRm rm d0 q0.2.2.2.2.1).cells) (σ.2.2.2.2.2 + (kRm rm d0 q0.2.2.2.2.1).slots) := by
                    intro v h9 hq9
                    obtain ⟨hn9, as_q, a1, rfl, a3, a4⟩ := hq9
                    have hd5 : ∀ w ∈ σ.2.1.drop q0.2.2.1, kW σ.2.2.2.1 w := fun w hw => h5 w (List.mem_of_mem_drop hw)
                    refine kk as_q lv _ h9 ⟨hn9, a1⟩ ⟨?_, ?_, a4, fun z hz => kW_up (hA.2.2.2.1 z hz) hn9, fun w hw => ?_⟩
                    · rw [hA.1]
                      exact (kRL_same hA.2.2.2.1 a1).symm
                    · show _ = (r.1.toList ++ σ.2.1.drop q0.2.2.1).map (kRn as_q)
                      rw [List.map_append, kRS_same hd5 a1]
                      congr 1
                      cases r.1 <;> rfl
                    · have hw : w ∈ r.1.toList ++ σ.2.1.drop q0.2.2.1 := hw
                      rcases List.mem_append.mp hw with hw | hw
                      · cases hr1 : r.1 with
                        | none => rw [hr1] at hw; cases hw
                        | some w_q =>
                          rw [hr1] at hw
                          have : w = w_q := by simpa using hw
                          subst this
                          exact a3 w hr1
                      · exact kW_up (hd5 w hw) hn9
                  have hl9 : ((σ.2.1.take q0.2.2.1).reverse.map (kRn as)).length = q0.2.2.1 := by
                    simp
                    omega
                  rw [hst]
                  generalize hre : (σ.2.1.take q0.2.2.1).reverse = av at *
                  rcases hkk with hk1 | ⟨hk23, hrf⟩
                  · rw [hk1] at hg
                    obtain ⟨g0, g1, g2, g7⟩ := hg
                    have hi := hdi.1 (by rw [hk1] at hsort; exact Nat.eq_of_beq_eq_true hsort)
                    subst hi
                    have hcw : aCw d = .code d.1 d.2.1 d.2.2.1 d.2.2.2.1 := by unfold aCw; rw [if_pos g0]
                    rw [hcw] at hcon hgi
                    exact xs_callS C hE hcon hgi g1 g2 hini g7 hl9 hrm hsum hdg kr (fun _ _ hf => hf.elim)
                  · cases av with
                    | nil => simp [kRf] at hrf
                    | cons x av =>
                      cases x with
                      | ref a =>
                        have hl8 : (av.map (kRn as)).length = q0.2.2.1 - 1 := by
                          simp at hl9 ⊢
                          omega
                        have e9 : ((Value.ref a :: av).map (kRn as)).reverse ++ (σ.2.1.drop q0.2.2.1).map (kRn as) = (av.map (kRn as)).reverse ++ Value.ref (as a) :: (σ.2.1.drop q0.2.2.1).map (kRn as) := by
                          simp [kRn]
                        rw [e9]
                        have hcon_q : xMet D dA cl tA B nw nc ao W0 l d.1 (aCw d) (kRm rm d0 q0.2.2.2.2.1) (.ref (as a) :: av.map (kRn as)) h (kQ as B σ.2.2.2.1 r) (fun _ _ => False) := hcon
                        have hi := hdi.2 (by rcases hk23 with e | e <;> (rw [e] at hsort; exact Nat.eq_of_beq_eq_true hsort))
                        subst hi
                        rcases hk23 with hk2 | hk3
                        · rw [hk2] at hg
                          obtain ⟨g0, g1, g2, g3, g4, g6, g7⟩ := hg
                          have hcw : aCw d = .code d.1 d.2.1 d.2.2.1 none := by unfold aCw; rw [if_pos g0, g4]
                          rw [hcw] at hcon_q hgi
                          exact xs_callI C hE hcon_q hgi g1 g2 hini g3 g7 hl8 hrm hsum hdg kr
                        · rw [hk3] at hg
                          obtain ⟨g0, ⟨host, g1⟩, g2, g3, g4, g6, g7⟩ := hg
                          have hcw : aCw d = .code d.1 d.2.1 d.2.2.1 none := by unfold aCw; rw [if_pos g0, g4]
                          rw [hcw] at hcon_q hgi
                          exact xs_callIN C hE hcon_q hgi g1 g2 hini g3 g7 hl8 hrm hsum hdg kr
                      | _ => simp [kRf] at hrf
                · cases h1
              · cases h1
            · cases h1
      · cases h1
    · cases h1
  · cases h1
theorem kOne_ok (C : xCx p s m args c cc nL Ts own D dA cl tA tyf B) (hG : aGd own Ts cl tA tyf meth s b M) (hA : kSt as B σ lv st h) (hdg : decode cc pc = .ok (i, len)) (h1 : kOne nL M i len pc σ = some q) : kGo p l e R s m args below meth c nL D dA cl tA B Q pc lv st h as σ q := by
  unfold kOne at h1
  rcases aOr_at h1 with h1 | h1
  · exact kP0_ok C hA hdg h1
  rcases aOr_at h1 with h1 | h1
  · exact kP1_ok C hA hdg h1
  rcases aOr_at h1 with h1 | h1
  · exact kP2_ok C hA hdg h1
  rcases aOr_at h1 with h1 | h1
  · exact kP3_ok C hG hA hdg h1
  · exact kP4_ok C hG hA hdg h1
theorem kOneF_ok (C : xCx p s m args c cc nL Ts own D dA cl tA tyf B) (hG : aGd own Ts cl tA tyf meth s b M) (hA : kSt as B σ lv st h) (hdg : decode cc pc = .ok (i, len)) (h1 : kOneF nL M i len pc σ = some q) : kGo p l e R s m args below meth c nL D dA cl tA B Q pc lv st h as σ q := by
  unfold kOneF at h1
  match hk : kSo i with
  | 0 => rw [hk] at h1; cases h1
  | 1 => rw [hk] at h1; exact kP0_ok C hA hdg h1
  | 2 => rw [hk] at h1; exact kP1_ok C hA hdg h1
  | 3 => rw [hk] at h1; exact kP2_ok C hA hdg h1
  | 4 => rw [hk] at h1; exact kP3_ok C hG hA hdg h1
  | 5 => rw [hk] at h1; exact kP4_ok C hG hA hdg h1
  | n + 6 => rw [hk] at h1; cases h1
/-- **the run, up to the place where it stops** -/
theorem kTo_ok {Bd : aBd} {stop : Nat → Instr → Bool} (C : xCx p s m args c cc nL Ts own D dA cl tA tyf B) (hE : xEnv D dA cl tA B nw nc ao s) (hBg : aBg own Ts cl tA tyf [] nw nc W0 mth mx xn b meth s c cc nL Bd) (hS : kSnd D dA cl tA B nw nc ao W0 l mth rm call d0) (hF : kFill D dA cl tA B nw nc ao W0 l mth fl) (hfr : d0 + 1 ≤ R.frames) (hlo : 64 * (d0 + 1) ≤ R.locals) (hrc : rc ≤ R.cells) (hrs : rs ≤ R.slots) :
    ∀ (f pc : Nat) (σ : kS) (as : Nat → Nat) (lv : List (Nat × Value)) (st : List Value) (h : xH) (q : Nat × kS), kTo fl mx rm rc rs call stop Bd f pc σ = some q → kSt as B σ lv st h → (∀ (as_q : Nat → Nat) (lv_q : List (Nat × Value)) (st_q : List Value) (h_q : xH), (σ.2.2.2.1 ≤ q.2.2.2.2.1 ∧ ∀ i, i < σ.2.2.2.1 → as_q i = as i) → kSt as_q B q.2 lv_q st_q h_q → xSafe p l e R s m args below meth c nL D dA cl tA B Q q.1 lv_q st_q h_q q.2.2.2.2.2.1 q.2.2.2.2.2.2) →
    xSafe p l e R s m args below meth c nL D dA cl tA B Q pc lv st h σ.2.2.2.2.1 σ.2.2.2.2.2 := by
  intro f
  induction f with
  | zero => intro pc σ as lv st h q h1; cases h1
  | succ f ih =>
    intro pc σ as lv st h q h1 hA kk
    unfold kTo at h1
    split at h1
    · rename_i il hil
      split at h1
      · split at h1
        · cases h1
          exact kk as lv st h ⟨Nat.le_refl _, fun _ _ => rfl⟩ hA
        · cases h1
      · split at h1
        · rename_i q1 hq1
          split at h1
          · rename_i hb
            rw [kPl_ok] at h1
            have hdg := hBg.2.1 _ (kF1_mem hil)
            dsimp only at hdg
            have one : kGo p l e R s m args below meth c nL D dA cl tA B Q pc lv st h as σ q1 := by
              rcases aOr_at hq1 with h9 | h9
              · rw [hBg.1] at h9
                exact kOneF_ok C hBg.2.2.1 hA hdg h9
              · exact kCl_ok C hE hBg.2.2.2.2.1 hS hF hfr hlo hA hdg h9
            refine one (Nat.le_trans (Nat.le_of_ble_eq_true hb.1) hrc) (Nat.le_trans (Nat.le_of_ble_eq_true hb.2) hrs) (fun as_q lv_q st_q h_q a1 a2 => ?_)
            exact ih q1.1 q1.2 as_q lv_q st_q h_q q h1 a2 (fun as2 lv2 st2 h2 b1 b2 => kk as2 lv2 st2 h2 ⟨Nat.le_trans a1.1 b1.1, fun i hi => (b1.2 i (Nat.lt_of_lt_of_le hi a1.1)).trans (a1.2 i hi)⟩ b2)
          · cases h1
        · cases h1
    · cases h1
theorem kTo_bd {Bd : aBd} {stop : Nat → Instr → Bool} : ∀ {f pc : Nat} {σ : kS} {q : Nat × kS}, kTo fl mx rm rc rs call stop Bd f pc σ = some q → q.2.2.2.2.2.1 ≤ rc ∧ q.2.2.2.2.2.2 ≤ rs
  | 0, _, _, _, h => by cases h
  | f + 1, pc, σ, q, h => by
    unfold kTo at h
    split at h
    · split at h
      · split at h
        · rename_i hb
          cases h
          exact ⟨Nat.le_of_ble_eq_true hb.1, Nat.le_of_ble_eq_true hb.2⟩
        · cases h
      · split at h
        · split at h
          · rw [kPl_ok] at h
            exact kTo_bd h
          · cases h
        · cases h
    · cases h
theorem kArgs_w {n : Nat} : ∀ {av : List Value} {i : Nat}, (∀ v ∈ av, kW n v) → ∀ q ∈ lv_args i av, kW n q.2
  | [], _, _, q, hq => by cases hq
  | v :: av, i, h, q, hq => by
    simp only [lv_args] at hq
    rcases List.mem_cons.mp hq with rfl | hq
    · exact h v List.mem_cons_self
    · exact kArgs_w (fun w hw => h w (List.mem_cons_of_mem _ hw)) q hq
theorem lg_sl_len : ∀ {av : List Value}, (lg_sl av).length = (av.map fun v => v.category).sum
  | [] => rfl
  | v :: av => by
    have hi := lg_sl_len (av := av)
    unfold lg_sl at hi ⊢
    simp only [List.flatMap_cons, List.length_append, List.map_cons, List.sum_cons, hi]
    congr 1
    cases v <;> rfl
/-- **the contracts of what makes cells** -/
theorem kCall_ok {bds : List aBd} (hsg : ∀ (k : Nat) (d : aMd) (Bd : aBd), mth[k]? = some d → bds[k]? = some Bd → aSg cl tA tyf [] nw nc ao W0 mth mx xn d Bd ∧ plainFor d.1 = true ∧ mx.getD k 0 = d.2.2.1) (hTab : xTab cl tA tyf W0) (hF : kFill D dA cl tA B nw nc ao W0 l mth fl) : ∀ d0 : Nat, kSnd D dA cl tA B nw nc ao W0 l mth rm (kCall fl mx rm bds d0) d0 := by
  intro d0
  induction d0 with
  | zero => intro mi d hd av cs n r h1; cases h1
  | succ d0 ih =>
    intro mi d hd av cs n r h1 as h hR hav
    unfold kCall at h1
    split at h1
    · rename_i Bd hBd
      split at h1
      · rename_i hc
        split at h1
        · rename_i q hq
          obtain ⟨g1, g2, g3⟩ := hsg mi d Bd hd hBd
          have hT : ∀ cw, xTab cl tA tyf (cw :: W0) := fun cw => ⟨fun ci r hr => by
            obtain ⟨k1, k2, k3⟩ := hTab.1 ci r hr
            exact ⟨k1, fun w hw => List.mem_cons_of_mem _ (k2 w hw), k3⟩, hTab.2⟩
          have hA0 : kSt as B (lv_args 0 av, [], cs, n, 0, 0) (lv_args 0 (av.map (kRn as))) [] h := ⟨lv_args_rn, rfl, hR, kArgs_w hav, fun v hv => by cases hv⟩
          have hlen : (lg_sl (av.map (kRn as))).length ≤ d.2.2.1 := by
            rw [lg_sl_len, kCat_rn, ← g3]
            exact hc.1
          have hemp : d.2.2.2.2 = [] := by
            have h7 := g1.2.2.2.2.2.2.1.1
            rw [List.isEmpty_iff.mp hc.2] at h7
            simpa using h7
          unfold aCw
          rw [if_pos hemp]
          refine xMet_of (tyf := tyf) g2 (hT _) hlen (fun p e s m args below meth c C hE hlocks hr hn hnt => ?_)
          have hx : c.exceptionTable.toList = tableOf d.2.2.2.2 := by
            rw [hemp]
            cases hc : c.exceptionTable.toList with
            | nil => rfl
            | cons z zs => exact (hnt z (by rw [hc]; exact List.mem_cons_self)).elim
          have hBg := aSg_bg (Ts := Cond.code d.1 d.2.1 d.2.2.1 d.2.2.2.1 :: W0) (b := (0, 0, fun _ => 0)) (fun w hw => List.mem_cons_of_mem _ hw) g1 (by decide) hE hn hr hx
          have := kTo_ok (R := kRm rm (d0 + 1) mi) (Q := xEnd below args s D dA cl tA B (kQ as B n r) (fun _ _ => False) (kRm rm (d0 + 1) mi).cells (kRm rm (d0 + 1) mi).slots) (p := p) (l := l) (e := e) (below := below) C hE hBg ih hF (Nat.le_refl _) (Nat.le_refl _) (Nat.le_refl _) (Nat.le_refl _) 4000 0 (lv_args 0 av, [], cs, n, 0, 0) as _ [] h q hq hA0 (fun as_q lv_q st_q h_q a1 a2 => ?_)
          · exact this
          · obtain ⟨q1, q2⟩ := kTo_bd hq
            unfold kEnd at h1
            split at h1
            · rename_i hil
              have hdg := hBg.2.1 _ (kF1_mem hil)
              dsimp only at hdg
              split at h1
              · rename_i hS0
                split at h1
                · rename_i hrt
                  cases h1
                  have h2 := a2.2.1
                  rw [hS0] at h2
                  subst h2
                  exact xs_vret C hlocks (hBg.2.2.2.2.2.2.2.1 hrt) q1 q2 ⟨a1.1, as_q, a1.2, rfl, (fun w hw => by cases hw), a2.2.2.1⟩ hdg
                · cases h1
              · cases h1
            · rename_i hil
              have hdg := hBg.2.1 _ (kF1_mem hil)
              dsimp only at hdg
              split at h1
              · rename_i z hS0
                split at h1
                · rename_i hrt
                  cases h1
                  have h2 := a2.2.1
                  rw [hS0] at h2
                  subst h2
                  obtain ⟨ty, e1, e2⟩ := hBg.2.2.2.2.2.2.2.2 (by omega)
                  have e3 := e2.1 hrt
                  subst e3
                  exact xs_iret C hlocks e1 rfl q1 q2 ⟨a1.1, as_q, a1.2, rfl, (fun w hw => by cases hw; intro i hi; cases hi), a2.2.2.1⟩ hdg
                · cases h1
              · cases h1
            · cases h1
        · cases h1
      · cases h1
    · cases h1
end KC
