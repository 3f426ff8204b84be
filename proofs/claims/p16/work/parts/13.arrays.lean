section XA
variable {p : Program} {l : Launch} {e : Env} {R0 : Room} {s : State} {m : MethodId} {args : Array Value} {below : List Frame} {meth : Method} {c : Code} {Q : State → Prop}
variable {cc : ByteArray} {nL : Nat} {Ts : List Cond} {own : String} {D : va_G} {dA : Nat → ClassId} {cl : List vw_C} {tA : List (Nat × FieldType)} {tyf : Nat → Nat → FieldType} {B : Nat}
variable {kd : List aKd} {b : aSc} {P : Nat → Prop} {h0 : xH} {ρ : Nat → Int} {α τ : Nat → Option Nat} {σ : aS} {pc len : Nat} {lv : List (Nat × Value)} {st : List Value} {h : xH} {i : Instr} {l1 : List (Nat × aS)}
variable {M : aTb}
/-- kinds of arrays are arrays -/
def aKt (kd : List aKd) (tA : List (Nat × FieldType)) : Prop := ∀ q ∈ kd, 1000 ≤ q.1 → ∃ ty, (q.1, ty) ∈ tA
theorem asA_ok (C : xCx p s m args c cc nL Ts own D dA cl tA tyf B) (hG : aGd own Ts cl tA tyf meth s b M) (hKt : aKt kd tA) {xs : Nat → Int32} (hX : aLd i = true → ∀ r ∈ σ.2.2.2.1, r.1 = 7 → va_X b.1 b.2.1 xs s s.heap ∧ b.1 < s.heap.size ∧ ¬ B ≤ b.1 ∧ ∀ j : Nat, j < b.2.1 → b.2.2 j = (xs j).toInt) (hA : aSx kd B b P h0 ρ α τ σ lv st h) (hdg : decode cc pc = .ok (i, len)) (hs : asA kd σ i len pc = some l1) (kk : (∀ q ∈ l1, ∀ (ρ_q : Nat → Int) (α_q τ_q : Nat → Option Nat) (lv_q : List (Nat × Value)) (st_q : List Value) (h_q : xH), aSame σ.1.length σ.2.1 ρ ρ_q α α_q → aSub τ τ_q → aSx kd B b P h0 ρ_q α_q τ_q q.2 lv_q st_q h_q → xSafe p l e R0 s m args below meth c nL D dA cl tA B Q q.1 lv_q st_q h_q q.2.2.2.2.2.2.1 q.2.2.2.2.2.2.2)) : xSafe p l e R0 s m args below meth c nL D dA cl tA B Q pc lv st h σ.2.2.2.2.2.1 σ.2.2.2.2.2.2 := by
  unfold asA at hs
  split at hs
  · rename_i ix r S hS
    split at hs
    · rename_i hc0
      obtain ⟨hl, hix, hld⟩ := hc0
      subst hl
      have h3 := hA.1.2.2.1
      rw [hS] at h3
      obtain ⟨x, st_q, rfl, hx, h4⟩ := aStk_cons h3
      obtain ⟨y, st_q, rfl, hy, h5⟩ := aStk_cons h4
      have hA2 : aSx kd B b P h0 ρ α τ (σ.1, σ.2.1, σ.2.2.1, S, σ.2.2.2.2) lv st_q h := ⟨⟨hA.1.1, hA.1.2.1, h5, hA.1.2.2.2⟩, hA.2⟩
      split at hs
      · rename_i ht
        split at hs
        · rename_i K hK
          split at hs
          · rename_i hc
            cases hp : aPf σ S (aKf K 0) with
            | none => rw [hp] at hs; cases hs
            | some σ_q =>
              rw [hp] at hs
              cases hs
              obtain ⟨a, rfl, hk, hta⟩ := aM_knd hy ht
              obtain ⟨K_q, V, e1, e2, e3, e4⟩ := hA.1.2.2.2.2 a _ hta
              cases hK.symm.trans e1
              obtain ⟨z, rfl, hz⟩ := aIx (σ := σ) hA.1.1 hx hix hc.2
              have hK1 : 1000 ≤ K.1 := by
                have h9 := hc.1
                unfold aAt at h9
                split at h9 <;> first | (simp only [Bool.or_eq_true, decide_eq_true_eq] at h9; omega) | (cases h9)
              have hf : aFm τ (aKf K 0) (V z.toNatClampNeg) := by
                have h9 := e4 z.toNatClampNeg (xin_lt hz)
                unfold aKf at h9 ⊢
                rw [if_neg (by omega)] at h9 ⊢
                exact h9
              obtain ⟨ρ_q, α_q, g1, g2, g3⟩ := aPf_ok (σ := σ) (S := S) (st := st_q) (h := h) hA2 hp hf
              have := kk _ List.mem_cons_self ρ_q α_q τ lv (V z.toNatClampNeg :: st_q) h g1 aSub_rf g2
              rw [g3] at this
              exact aRd C hG hc.1 hld (fun _ => hKt K (List.mem_of_getElem? hK) hK1) e3 hz hdg this
          · cases hs
        · cases hs
      · split at hs
        · rename_i ht
          split at hs
          · rename_i o ho
            split at hs
            · rename_i hc
              obtain ⟨hc1, hc2, hc3, hc4, hc5, hc6⟩ := hc
              split at hs
              · rename_i v hv
                cases hs
                obtain ⟨a, rfl, hk⟩ := aM_obj hy ht
                obtain ⟨V, e1, e2, e3⟩ := aSx_obj hA ho hk
                obtain ⟨z, rfl, hz⟩ := aM_int hx hix
                have h00 := aZ_ok hc4 hA.1.1
                rw [hc3, h00] at hz
                have hlt : ix.2.2.toNat < o.2.2.length := (List.getElem?_eq_some_iff.mp hv).1
                have hvp : vp_in z o.2.2.length := vp_in_iff.mpr (by omega)
                have hzn : z.toNatClampNeg = ix.2.2.toNat := by
                  unfold Int32.toNatClampNeg
                  rw [hz]
                  congr 1
                  omega
                exact aRd C hG hc1 hld (fun h9 => by omega) e2 hvp hdg (by
                  rw [hzn]
                  exact kk _ List.mem_cons_self ρ α τ lv (V ix.2.2.toNat :: st_q) h aSame_rf aSub_rf ⟨⟨hA.1.1, hA.1.2.1, ⟨e3 _ _ hv, h5⟩, hA.1.2.2.2⟩, hA.2⟩)
              · cases hs
            · cases hs
          · cases hs
        · split at hs
          · rename_i ht
            split at hs
            · split at hs
              · rename_i hc
                obtain ⟨x1, x2, x3, x4⟩ := hX rfl r (by rw [hS]; simp) ht
                obtain ⟨rfl, hlen, hcell⟩ := aM_scr hy ht
                obtain ⟨z, rfl, hz⟩ := aM_int hx hix
                have h9 := aIn_ok hA.1.1 hc
                have h10 := hA.1.1 r.2.1
                have hvp : vp_in z b.2.1 := vp_in_iff.mpr (by omega)
                split at hs
                · rename_i hk
                  cases hs
                  have h00 := aZ_ok hk.2.1 hA.1.1
                  rw [hk.1, h00] at hz
                  rw [hk.1, h00] at h9
                  have hzn : z.toNatClampNeg = ix.2.2.toNat := by
                    unfold Int32.toNatClampNeg
                    rw [hz]
                    congr 1
                    omega
                  have hlt : ix.2.2.toNat < b.2.1 := by omega
                  have h6 := hcell ix.2.2.toNat (by omega)
                  rw [x4 _ hlt] at h6
                  refine xs_sld C x1 x2 x3 hvp hdg ?_
                  rw [hzn]
                  exact kk _ List.mem_cons_self ρ α τ lv (.int (xs ix.2.2.toNat) :: st_q) h aSame_rf aSub_rf ⟨⟨hA.1.1, hA.1.2.1, ⟨⟨_, rfl, by show _ = ρ (r.2.1 + 1 + ix.2.2.toNat) + 0; rw [h6]; omega⟩, h5⟩, hA.1.2.2.2⟩, hA.2⟩
                · cases hp : aPu σ S 0 (aFull 0) with
                  | none => rw [hp] at hs; cases hs
                  | some σ_q =>
                    rw [hp] at hs
                    cases hs
                    obtain ⟨ρ_q, g1, g2, g3⟩ := aPu_ok (σ := σ) (S := S) (st := st_q) (h := h) hA2 hp (v := .int (xs z.toNatClampNeg)) (Or.inl ⟨rfl, _, rfl, aFull0 _⟩)
                    have := kk _ List.mem_cons_self ρ_q α τ lv (.int (xs z.toNatClampNeg) :: st_q) h g1 aSub_rf g2
                    rw [g3] at this
                    exact xs_sld C x1 x2 x3 hvp hdg this
              · cases hs
            · cases hs
          · cases hs
    · cases hs
  · cases hs
theorem nI_of_nat {N : Nat} (h : N < 2147483648) : (Int32.ofNat N).toInt = (N : Int) := nI_toInt h
theorem asH_ok (C : xCx p s m args c cc nL Ts own D dA cl tA tyf B) (hG : aGd own Ts cl tA tyf meth s b M) {xs : Nat → Int32} (hX : ∀ r ∈ σ.2.2.2.1, r.1 = 7 → va_X b.1 b.2.1 xs s s.heap ∧ b.1 < s.heap.size ∧ ¬ B ≤ b.1 ∧ ∀ j : Nat, j < b.2.1 → b.2.2 j = (xs j).toInt) (hA : aSx kd B b P h0 ρ α τ σ lv st h) (hdg : decode cc pc = .ok (i, len)) (hs : asH kd σ i len pc = some l1) (kk : (∀ q ∈ l1, ∀ (ρ_q : Nat → Int) (α_q τ_q : Nat → Option Nat) (lv_q : List (Nat × Value)) (st_q : List Value) (h_q : xH), aSame σ.1.length σ.2.1 ρ ρ_q α α_q → aSub τ τ_q → aSx kd B b P h0 ρ_q α_q τ_q q.2 lv_q st_q h_q → xSafe p l e R0 s m args below meth c nL D dA cl tA B Q q.1 lv_q st_q h_q q.2.2.2.2.2.2.1 q.2.2.2.2.2.2.2)) : xSafe p l e R0 s m args below meth c nL D dA cl tA B Q pc lv st h σ.2.2.2.2.2.1 σ.2.2.2.2.2.2 := by
  unfold asH at hs
  split at hs
  · split at hs
    · rename_i r S hS
      split at hs
      · rename_i hl
        subst hl
        have h3 := hA.1.2.2.1
        rw [hS] at h3
        obtain ⟨y, st_q, rfl, hy, h5⟩ := aStk_cons h3
        split at hs
        · rename_i ht
          split at hs
          · rename_i K hK
            split at hs
            · rename_i hc
              cases hs
              obtain ⟨a, rfl, hk, hta⟩ := aM_knd hy ht
              obtain ⟨K_q, V, e1, e2, e3, e4⟩ := hA.1.2.2.2.2 a _ hta
              cases hK.symm.trans e1
              have h00 := aZ_ok hc.2.2 hA.1.1
              exact xs_alen C hc.1 e3 hdg (kk _ List.mem_cons_self ρ α τ lv (.int (Int32.ofNat K.2.1) :: st_q) h aSame_rf aSub_rf ⟨⟨hA.1.1, hA.1.2.1, ⟨⟨_, rfl, by show _ = ρ 0 + (K.2.1 : Int); rw [nI_of_nat hc.2.1, h00]; omega⟩, h5⟩, hA.1.2.2.2⟩, hA.2⟩)
            · cases hs
          · cases hs
        · split at hs
          · rename_i ht
            cases hs
            obtain ⟨x1, x2, x3, -⟩ := hX r (by rw [hS]; simp) ht
            obtain ⟨rfl, hlen, -⟩ := aM_scr hy ht
            exact xs_slen C x1 x2 x3 hdg (kk _ List.mem_cons_self ρ α τ lv (.int (Int32.ofNat b.2.1) :: st_q) h aSame_rf aSub_rf ⟨⟨hA.1.1, hA.1.2.1, ⟨⟨_, rfl, by show _ = ρ r.2.1 + 0; rw [nI_of_nat hG.2.2.2.2.2.2.2.2, hlen]; omega⟩, h5⟩, hA.1.2.2.2⟩, hA.2⟩)
          · cases hs
      · cases hs
    · cases hs
  · cases hs
theorem aEt_ty {t : Nat} : (aEt t = 0 → t = 1000) ∧ (aEt t = 1 → t = 1001) ∧ (aEt t = 2 → t = 1003) ∧ (aEt t = 3 → t = 1002) := by
  unfold aEt
  refine ⟨?_, ?_, ?_, ?_⟩ <;> (repeat' split) <;> first | (intro h; cases h; done) | (intro _; assumption) | (intro h; exact absurd h (by decide))
/-- an element is written: it is kept as it is -/
theorem aWr (C : xCx p s m args c cc nL Ts own D dA cl tA tyf B) (hG : aGd own Ts cl tA tyf meth s b M) {a t N : Nat} {V : Nat → Value} {j : Int32} {v : aV} {x : Value} (hR : aOkR σ.1 ρ) (hx : aM ρ α τ b v x) (ht : aAt i t = true) (hl : aSr i = true) (hv : aTok σ.1 (aEt t) v = true) (ha : h a = some (t, N, V)) (hB : B ≤ a) (hj : vp_in j N) (hdg : decode cc pc = .ok (i, 1)) {k n : Nat} (kk : xSafe p l e R0 s m args below meth c nL D dA cl tA B Q (pc + 1) lv st (xput h a (t, N, updV V j.toNatClampNeg x)) k n) : xSafe p l e R0 s m args below meth c nL D dA cl tA B Q pc lv (x :: .int j :: .ref a :: st) h k n := by
  have hA4 := hG.2.2.2.2.1.1
  have key : xnar t x = x ∧ ((t = 1000 ∧ xsort x = 0) ∨ (t = 1001 ∧ xsort x = 1) ∨ (t = 1002 ∧ xsort x = 0) ∨ (t = 1003 ∧ xsort x = 0)) := by
    have hso := asort_ok hx
    obtain ⟨q0, q1, q2, q3⟩ := aEt_ty (t := t)
    unfold aTok at hv
    split at hv
    · rename_i e
      have h1 := q0 e
      subst h1
      simp only [decide_eq_true_eq] at hv
      refine ⟨rfl, Or.inl ⟨rfl, ?_⟩⟩
      rw [hso]; simp [asort, hv]
    · rename_i e
      have h1 := q1 e
      subst h1
      simp only [decide_eq_true_eq] at hv
      refine ⟨rfl, Or.inr (Or.inl ⟨rfl, ?_⟩)⟩
      rw [hso]; simp [asort, hv]
    · rename_i e
      have h1 := q2 e
      subst h1
      have h2 := aTok_ok (k := 2) (ty := .boolean) hR hx ⟨by decide, by decide, fun _ => rfl, by decide, fun h => absurd h (by decide)⟩ hv
      simp only [Bool.and_eq_true, decide_eq_true_eq] at hv
      refine ⟨h2.1, Or.inr (Or.inr (Or.inr ⟨rfl, ?_⟩))⟩
      rw [hso]; simp [asort, hv.1]
    · rename_i e
      have h1 := q3 e
      subst h1
      have h2 := aTok_ok (k := 3) (ty := .byte) hR hx ⟨by decide, by decide, by decide, fun _ => rfl, fun h => absurd h (by decide)⟩ hv
      simp only [Bool.and_eq_true, decide_eq_true_eq] at hv
      refine ⟨h2.1, Or.inr (Or.inr (Or.inl ⟨rfl, ?_⟩))⟩
      rw [hso]; simp [asort, hv.1]
    · rename_i e
      exfalso
      unfold aEt at e
      repeat' split at e
      all_goals exact absurd e (by decide)
    · cases hv
  obtain ⟨k1, k2⟩ := key
  have k3 : (t = 1000 ∧ i = .iastore ∧ xsort x = 0) ∨ (t = 1001 ∧ i = .lastore ∧ xsort x = 1) ∨ (t = 1002 ∧ i = .bastore ∧ xsort x = 0) ∨ (t = 1003 ∧ i = .bastore ∧ xsort x = 0) := by
    unfold aSr at hl
    split at hl
    · have : t = 1000 := by simpa [aAt] using ht
      subst this
      rcases k2 with ⟨-, h⟩ | ⟨h, -⟩ | ⟨h, -⟩ | ⟨h, -⟩
      · exact Or.inl ⟨rfl, rfl, h⟩
      · exact absurd h (by decide)
      · exact absurd h (by decide)
      · exact absurd h (by decide)
    · have : t = 1001 := by simpa [aAt] using ht
      subst this
      rcases k2 with ⟨h, -⟩ | ⟨-, h⟩ | ⟨h, -⟩ | ⟨h, -⟩
      · exact absurd h (by decide)
      · exact Or.inr (Or.inl ⟨rfl, rfl, h⟩)
      · exact absurd h (by decide)
      · exact absurd h (by decide)
    · have : t = 1002 ∨ t = 1003 := by simpa [aAt] using ht
      rcases this with rfl | rfl
      · rcases k2 with ⟨h, -⟩ | ⟨h, -⟩ | ⟨-, h⟩ | ⟨h, -⟩
        · exact absurd h (by decide)
        · exact absurd h (by decide)
        · exact Or.inr (Or.inr (Or.inl ⟨rfl, rfl, h⟩))
        · exact absurd h (by decide)
      · rcases k2 with ⟨h, -⟩ | ⟨h, -⟩ | ⟨h, -⟩ | ⟨-, h⟩
        · exact absurd h (by decide)
        · exact absurd h (by decide)
        · exact absurd h (by decide)
        · exact Or.inr (Or.inr (Or.inr ⟨rfl, rfl, h⟩))
    · cases hl
  exact xs_ast C k3 hA4 ha hB hj hdg (by rw [k1]; exact kk)
theorem asT_ok (C : xCx p s m args c cc nL Ts own D dA cl tA tyf B) (hG : aGd own Ts cl tA tyf meth s b M) (hKt : aKt kd tA) (hA : aSx kd B b P h0 ρ α τ σ lv st h) (hdg : decode cc pc = .ok (i, len)) (hs : asT kd σ i len pc = some l1) (kk : (∀ q ∈ l1, ∀ (ρ_q : Nat → Int) (α_q τ_q : Nat → Option Nat) (lv_q : List (Nat × Value)) (st_q : List Value) (h_q : xH), aSame σ.1.length σ.2.1 ρ ρ_q α α_q → aSub τ τ_q → aSx kd B b P h0 ρ_q α_q τ_q q.2 lv_q st_q h_q → xSafe p l e R0 s m args below meth c nL D dA cl tA B Q q.1 lv_q st_q h_q q.2.2.2.2.2.2.1 q.2.2.2.2.2.2.2)) : xSafe p l e R0 s m args below meth c nL D dA cl tA B Q pc lv st h σ.2.2.2.2.2.1 σ.2.2.2.2.2.2 := by
  unfold asT at hs
  split at hs
  · rename_i v ix r S hS
    split at hs
    · rename_i hc0
      obtain ⟨hl, hix⟩ := hc0
      subst hl
      have h3 := hA.1.2.2.1
      rw [hS] at h3
      obtain ⟨x, st_q, rfl, hx, h4⟩ := aStk_cons h3
      obtain ⟨w, st_q, rfl, hw, h5⟩ := aStk_cons h4
      obtain ⟨y, st_q, rfl, hy, h6⟩ := aStk_cons h5
      have hA2 : aSx kd B b P h0 ρ α τ (aWS σ S) lv st_q h := ⟨⟨hA.1.1, hA.1.2.1, h6, hA.1.2.2.2⟩, hA.2⟩
      split at hs
      · rename_i hsr
        split at hs
        · rename_i ht
          split at hs
          · rename_i K hK
            split at hs
            · rename_i hc
              cases hs
              obtain ⟨a, rfl, hk, hta⟩ := aM_knd hy ht
              obtain ⟨K_q, V, e1, e2, e3, e4⟩ := hA.1.2.2.2.2 a _ hta
              cases hK.symm.trans e1
              obtain ⟨z, rfl, hz⟩ := aIx (σ := σ) hA.1.1 hw hix hc.2.1
              have hK1 : 1000 ≤ K.1 := by
                have h9 := hc.1
                unfold aAt at h9
                split at h9 <;> first | (simp only [Bool.or_eq_true, decide_eq_true_eq] at h9; omega) | (cases h9)
              have hf : aFm τ (aKf K z.toNatClampNeg) x := by
                have h9 := aInF_ok hA.1.1 hx hc.2.2.2
                unfold aKf at h9 ⊢
                rw [if_neg (by omega)] at h9 ⊢
                exact h9
              exact aWr C hG (σ := σ) hA.1.1 hx hc.1 hsr hc.2.2.1 e3 e2 hz hdg (kk _ List.mem_cons_self ρ α τ lv st_q _ aSame_rf aSub_rf (aSx_wk hA2 hta hK e3 hf))
            · cases hs
          · cases hs
        · split at hs
          · rename_i ht
            split at hs
            · rename_i o ho
              split at hs
              · rename_i hc
                obtain ⟨hc1, hc2, hc3, hc4, hc5, hc6⟩ := hc
                cases hs
                obtain ⟨a, rfl, hk⟩ := aM_obj hy ht
                obtain ⟨V, e1, e2, e3⟩ := aSx_obj hA ho hk
                obtain ⟨z, rfl, hz⟩ := aM_int hw hix
                have h00 := aZ_ok hc3 hA.1.1
                rw [hc2, h00] at hz
                have hvp : vp_in z o.2.2.length := vp_in_iff.mpr (by omega)
                have hzn : z.toNatClampNeg = ix.2.2.toNat := by
                  unfold Int32.toNatClampNeg
                  rw [hz]
                  congr 1
                  omega
                exact aWr C hG (σ := σ) hA.1.1 hx hc1 hsr hc6 e2 e1 hvp hdg (by
                  rw [hzn]
                  exact kk _ List.mem_cons_self ρ α τ lv st_q _ aSame_rf aSub_rf (aSx_wo hA2 ho hk e2 hx))
              · cases hs
            · cases hs
          · cases hs
      · split at hs
        · split at hs
          · rename_i hc0
            split at hs
            · rename_i K K2 hK hK2
              split at hs
              · rename_i hc
                obtain ⟨hc1, hc2, hc3, hc4⟩ := hc
                cases hs
                obtain ⟨a, rfl, hk, hta⟩ := aM_knd hy hc0.1
                obtain ⟨a2, rfl, hk2, hta2⟩ := aM_knd hx hc0.2
                obtain ⟨K_q, V, e1, e2, e3, e4⟩ := hA.1.2.2.2.2 a _ hta
                cases hK.symm.trans e1
                obtain ⟨K2_q, V2, f1, f2, f3, f4⟩ := hA.1.2.2.2.2 a2 _ hta2
                cases hK2.symm.trans f1
                obtain ⟨z, rfl, hz⟩ := aIx (σ := σ) hA.1.1 hw hix hc3
                obtain ⟨ty, hty⟩ := hKt K (List.mem_of_getElem? hK) (by omega)
                obtain ⟨rr, hrr, rfl⟩ := hG.2.2.2.2.1.2.2.2.2.2 _ _ hty hc1
                have hf : aFm τ (aKf K z.toNatClampNeg) (.ref a2) := by
                  have h9 := aInF_ok hA.1.1 hx hc4
                  unfold aKf at h9 ⊢
                  rw [if_neg (by omega)] at h9 ⊢
                  exact h9
                rw [hc2] at f3
                exact xs_aast C hrr hty e3 e2 f3 hz hdg (kk _ List.mem_cons_self ρ α τ lv st_q _ aSame_rf aSub_rf (aSx_wk hA2 hta hK e3 hf))
              · cases hs
            · cases hs
          · cases hs
        · cases hs
    · cases hs
  · cases hs
end XA
