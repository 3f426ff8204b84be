section XVk
variable {p : Program} {l : Launch} {e : Env} {R0 : Room} {s : State} {m : MethodId} {args : Array Value} {below : List Frame} {meth : Method} {c : Code} {Q : State → Prop}
variable {cc : ByteArray} {nL : Nat} {Ts : List Cond} {own : String} {D : va_G} {dA : Nat → ClassId} {cl : List vw_C} {tA : List (Nat × FieldType)} {tyf : Nat → Nat → FieldType} {B : Nat}
variable {kd : List aKd} {b : aSc} {P : Nat → Prop} {h0 : xH} {ρ : Nat → Int} {α τ : Nat → Option Nat} {σ : aS} {pc len : Nat} {lv : List (Nat × Value)} {st : List Value} {h : xH} {i : Instr} {l1 : List (Nat × aS)}
variable {hI : xH} {own9 I : aI} {ρ0 : Nat → Int} {α0 τ0 : Nat → Option Nat} {xn : List String} {nw : List Cond} {nc : List (String × String)} {ao : List String} {W0 : List Cond} {hs9 : List (Nat × Nat × Nat × Nat × Nat)} {mth : List aMd} {mx : List Nat} {J : List aI} {iv : List aIv}
/-- the handlers_q rows are true -/
def aHg (own : String) (Ts : List Cond) (xn : List String) (nw : List Cond) (nc : List (String × String)) (c : Code) (hs : List (Nat × Nat × Nat × Nat × Nat)) : Prop :=
  c.exceptionTable.toList = tableOf (hs.map (fun q => (q.1, q.2.1, q.2.2.1, q.2.2.2.1))) ∧
  ∀ q ∈ hs, q.2.2.2.1 ≠ 0 ∧ ∃ nm, xn[q.2.2.2.2]? = some nm ∧ Cond.classLink own q.2.2.2.1 nm ∈ Ts ∧ Cond.castable nm nm ∈ nw ∧ ∀ (x : Nat) (X : String), xn[x]? = some X → x ≠ q.2.2.2.2 → (X, nm) ∈ nc
theorem aHd_at {pc x hp : Nat} : ∀ {hs : List (Nat × Nat × Nat × Nat × Nat)}, aHd hs pc x = some hp → ∃ pre q suf, hs = pre ++ q :: suf ∧ (q.1 ≤ pc ∧ pc < q.2.1 ∧ q.2.2.2.2 = x) ∧ hp = q.2.2.1 ∧ ∀ z ∈ pre, ¬ (z.1 ≤ pc ∧ pc < z.2.1 ∧ z.2.2.2.2 = x)
  | [], h => by cases h
  | q :: qs, h => by
    unfold aHd at h
    split at h
    · rename_i hc
      cases h
      exact ⟨[], q, qs, rfl, hc, rfl, fun z hz => by cases hz⟩
    · rename_i hc
      obtain ⟨pre, q_q, suf, e1, e2, e3, e4⟩ := aHd_at h
      refine ⟨q :: pre, q_q, suf, by rw [e1]; rfl, e2, e3, fun z hz => ?_⟩
      rcases List.mem_cons.mp hz with rfl | hz
      · exact hc
      · exact e4 z hz
theorem aThr_ok (C : xCx p s m args c cc nL Ts own D dA cl tA tyf B) (hE : xEnv D dA cl tA B nw nc ao s) (hlocks : meth.locks = false) (hH : aHg own Ts xn nw nc c hs9) {x : Nat} {X : String} (hX : xn[x]? = some X) (hA : aSx kd B b P hI ρ α τ (aWS σ []) lv [] h) (hs : aSame own9.2.2.1.length own9.2.2.2.1 ρ0 ρ α0 α) (hb : aSub τ0 τ) (hk : σ.2.2.2.2.2.1 ≤ (aIr own9).cells) (hn : σ.2.2.2.2.2.2 ≤ (aIr own9).slots)
    (h1 : aThr own9 hs9 (aWS σ []) pc x = some l1) (kk : ∀ q ∈ l1, ∀ (lv_q : List (Nat × Value)) (st_q : List Value) (h_q : xH), aSx kd B b P hI ρ α τ q.2 lv_q st_q h_q → xSafe p l e (aIr own9) s m args below meth c nL D dA cl tA B (xEnd below args s D dA cl tA B (aQf kd B b P hI ρ0 α0 τ0 own9) (aXf kd B b P hI ρ0 α0 τ0 xn own9) (aIr own9).cells (aIr own9).slots) q.1 lv_q st_q h_q q.2.2.2.2.2.2.1 q.2.2.2.2.2.2.2) : xThr p l e (aIr own9) s m args below meth c nL D dA cl tA B (xEnd below args s D dA cl tA B (aQf kd B b P hI ρ0 α0 τ0 own9) (aXf kd B b P hI ρ0 α0 τ0 xn own9) (aIr own9).cells (aIr own9).slots) pc lv st X h σ.2.2.2.2.2.1 σ.2.2.2.2.2.2 := by
  unfold aThr at h1
  split at h1
  · rename_i hp hh
    cases h1
    obtain ⟨pre, q, suf, e1, ⟨e2, e3, e4⟩, e5, e6⟩ := aHd_at hh
    have hq : q ∈ hs9 := by rw [e1]; simp
    obtain ⟨g1, nm, g2, g3, g4, g5⟩ := hH.2 q hq
    rw [e4, hX] at g2
    cases g2
    have hcov : ∀ z : Nat × Nat × Nat × Nat × Nat, covers (⟨z.1, z.2.1, z.2.2.1, z.2.2.2.1⟩ : ExceptionTableEntry) pc = (decide (z.1 ≤ pc) && decide (pc < z.2.1)) := fun z => rfl
    refine xt_catch C hE (name := X) (pre.map (fun z => (⟨z.1, z.2.1, z.2.2.1, z.2.2.2.1⟩ : ExceptionTableEntry))) ⟨q.1, q.2.1, q.2.2.1, q.2.2.2.1⟩ (suf.map (fun z => (⟨z.1, z.2.1, z.2.2.1, z.2.2.2.1⟩ : ExceptionTableEntry))) ?_ ?_ ?_ g1 g3 g4 (fun a => ?_)
    · rw [hH.1, e1]
      simp [tableOf]
      rfl
    · intro z hz
      obtain ⟨z_q, hz_q, rfl⟩ := List.mem_map.mp hz
      rw [hcov]
      by_cases hc : z_q.1 ≤ pc ∧ pc < z_q.2.1
      · have hne : z_q.2.2.2.2 ≠ x := fun q => e6 z_q hz_q ⟨hc.1, hc.2, q⟩
        obtain ⟨f1, nm_q, f2, f3, f4, f5⟩ := hH.2 z_q (by rw [e1]; simp [hz_q])
        exact Or.inr ⟨f1, nm_q, f3, f5 x X hX (Ne.symm hne)⟩
      · left
        simp only [Bool.and_eq_false_iff, decide_eq_false_iff_not]
        omega
    · rw [hcov]
      simp [e2, e3]
    · show xSafe p l e (aIr own9) s m args below meth c nL D dA cl tA B (xEnd below args s D dA cl tA B (aQf kd B b P hI ρ0 α0 τ0 own9) (aXf kd B b P hI ρ0 α0 τ0 xn own9) (aIr own9).cells (aIr own9).slots) q.2.2.1 lv [.ref a] h _ _
      rw [← e5]
      exact kk _ List.mem_cons_self lv [.ref a] h ⟨⟨hA.1.1, hA.1.2.1, ⟨⟨a, rfl⟩, trivial⟩, hA.1.2.2.2⟩, hA.2⟩
  · split at h1
    · rename_i hc
      have hnil : hs9 = [] := by simpa using hc.1
      have hnt : ∀ z ∈ c.exceptionTable.toList, False := fun z hz => by
        rw [hH.1, hnil] at hz
        simp [tableOf] at hz
      have hA2 : aSx kd B b P hI ρ α τ (σ.1, σ.2.1, [], [], σ.2.2.2.2.1, σ.2.2.2.2.2.1, σ.2.2.2.2.2.2) [] [] h := ⟨⟨hA.1.1, (fun q hq => by cases hq), trivial, hA.1.2.2.2⟩, hA.2⟩
      exact xt_out hlocks hnt hk hn (aXo_ok (σ := σ) hA2 hs hb hX hc.2)
    · cases h1
/-- **what comes behind a call, by the callee's contract** -/
theorem aBehind_ok (C : xCx p s m args c cc nL Ts own D dA cl tA tyf B) (hE : xEnv D dA cl tA B nw nc ao s) (hlocks : meth.locks = false) (hH : aHg own Ts xn nw nc c hs9) {S A : List aV} {mp : aMp} {av st1 : List Value} (hA : aSx kd B b P hI ρ α τ (aWS σ S) lv st1 h) (hc : aCk σ S A mp I = true) (hs : aSame own9.2.2.1.length own9.2.2.2.1 ρ0 ρ α0 α) (hm : own9.2.2.1.length ≤ σ.1.length) (hma : own9.2.2.2.1 ≤ σ.2.1) (hb : aSub τ0 τ)
    (hrm : σ.2.2.2.2.2.1 + (aIr I).cells ≤ (aIr own9).cells ∧ σ.2.2.2.2.2.2 + (aIr I).slots ≤ (aIr own9).slots) (h1 : aBehind own9 hs9 σ S mp I pc = some l1) (kk : (∀ q ∈ l1, ∀ (ρ_q : Nat → Int) (α_q τ_q : Nat → Option Nat) (lv_q : List (Nat × Value)) (st_q : List Value) (h_q : xH), aSame σ.1.length σ.2.1 ρ ρ_q α α_q → aSub τ τ_q → aSx kd B b P hI ρ_q α_q τ_q q.2 lv_q st_q h_q → xSafe p l e (aIr own9) s m args below meth c nL D dA cl tA B (xEnd below args s D dA cl tA B (aQf kd B b P hI ρ0 α0 τ0 own9) (aXf kd B b P hI ρ0 α0 τ0 xn own9) (aIr own9).cells (aIr own9).slots) q.1 lv_q st_q h_q q.2.2.2.2.2.2.1 q.2.2.2.2.2.2.2)) :
    (∀ (v : Option Value) (h_q : xH), aQf kd B b (aPq τ h (aAB mp α) I) h (aRB mp I.2.2.1 ρ) (aAB mp α) τ I v h_q → xSafe p l e (aIr own9) s m args below meth c nL D dA cl tA B (xEnd below args s D dA cl tA B (aQf kd B b P hI ρ0 α0 τ0 own9) (aXf kd B b P hI ρ0 α0 τ0 xn own9) (aIr own9).cells (aIr own9).slots) (pc + 3) lv (v.toList ++ st1) h_q (σ.2.2.2.2.2.1 + (aIr I).cells) (σ.2.2.2.2.2.2 + (aIr I).slots)) ∧
    (∀ (X : String) (h_q : xH), aXf kd B b (aPq τ h (aAB mp α) I) h (aRB mp I.2.2.1 ρ) (aAB mp α) τ xn I X h_q → xThr p l e (aIr own9) s m args below meth c nL D dA cl tA B (xEnd below args s D dA cl tA B (aQf kd B b P hI ρ0 α0 τ0 own9) (aXf kd B b P hI ρ0 α0 τ0 xn own9) (aIr own9).cells (aIr own9).slots) pc lv st1 X h_q (σ.2.2.2.2.2.1 + (aIr I).cells) (σ.2.2.2.2.2.2 + (aIr I).slots)) := by
  unfold aBehind at h1
  split at h1
  · rename_i hce
    have hall := aAll_in h1
    refine ⟨fun v h_q hq => ?_, fun X h_q hq => ?_⟩
    · obtain ⟨E, hE1, ρ_q, α_q, τ_q, g1, g2, g3⟩ := hq
      obtain ⟨σ2, a1, ρ2, α2, a2, a3⟩ := aAfter hA hc (List.all_eq_true.mp hce.1 E hE1) g1 g2 g3
      obtain ⟨x1, b1, b2⟩ := hall _ (List.mem_append_left _ (List.mem_map.mpr ⟨E, hE1, rfl⟩))
      rw [a1] at b1
      cases b1
      have hcnt : σ2.2.2.2.2.2.1 = σ.2.2.2.2.2.1 + (aIr I).cells ∧ σ2.2.2.2.2.2.2 = σ.2.2.2.2.2.2 + (aIr I).slots := by
        unfold aAf at a1
        split at a1
        · cases a1; exact ⟨rfl, rfl⟩
        · cases a1
      have := kk _ (b2 _ List.mem_cons_self) ρ2 α2 τ_q lv _ h_q a2 g2 a3
      rw [hcnt.1, hcnt.2] at this
      exact this
    · obtain ⟨q, hq1, hX, ρ_q, α_q, τ_q, g1, g2, g3⟩ := hq
      have hce2 := List.all_eq_true.mp hce.2 q hq1
      simp only [Bool.and_eq_true] at hce2
      obtain ⟨σ2, a1, ρ2, α2, a2, a3⟩ := aAfter hA hc hce2.1 g1 g2 g3
      obtain ⟨x1, b1, b2⟩ := hall _ (List.mem_append_right _ (List.mem_map.mpr ⟨q, hq1, rfl⟩))
      rw [a1] at b1
      have hcnt : σ2.2.2.2.2.2.1 = σ.2.2.2.2.2.1 + (aIr I).cells ∧ σ2.2.2.2.2.2.2 = σ.2.2.2.2.2.2 + (aIr I).slots := by
        unfold aAf at a1
        split at a1
        · cases a1; exact ⟨rfl, rfl⟩
        · cases a1
      have a4 : aSx kd B b P hI ρ2 α2 τ_q (aWS σ2 []) lv [] h_q := ⟨⟨a3.1.1, a3.1.2.1, trivial, a3.1.2.2.2⟩, a3.2⟩
      have hs2 : aSame own9.2.2.1.length own9.2.2.2.1 ρ0 ρ2 α0 α2 := ⟨fun k hk => (a2.1 k (by omega)).trans (hs.1 k hk), fun k hk => (a2.2 k (by omega)).trans (hs.2 k hk)⟩
      have := aThr_ok C hE hlocks hH (st := st1) hX a4 hs2 (fun a K hK => g2 _ _ (hb _ _ hK)) (by rw [hcnt.1]; exact hrm.1) (by rw [hcnt.2]; exact hrm.2) b1 (fun z hz lv_q st_q h9 hz2 => kk z (b2 z hz) ρ2 α2 τ_q lv_q st_q h9 a2 g2 hz2)
      rw [hcnt.1, hcnt.2] at this
      exact this
  · cases h1
/-- a call's words -/
def aIg (own : String) (Ts : List Cond) (cl : List vw_C) (nw : List Cond) (W0 : List Cond) (mth : List aMd) (mx : List Nat) (q : aIv) : Prop :=
  if q.2.1 = 4 then Cond.methodLink own q.1 Lib.objectInit ∈ Ts ∧ Cond.instanceMethod Lib.objectInit ∈ Ts ∧ Cond.code Lib.objectInit ⟨#[0xb1]⟩ 1 none ∈ Ts
  else ∃ d, mth[q.2.2.2.2.1]? = some d ∧ mx.getD q.2.2.2.2.1 0 = d.2.2.1 ∧ GoodIn Ts (aCw d :: W0) ∧ Cond.initialized d.1.cls ∈ Ts ∧ match q.2.1 with
    | 0 => d.2.2.2.2 = [] ∧ Cond.methodLink own q.1 d.1 ∈ Ts ∧ Cond.instanceMethod d.1 ∈ Ts ∧ Cond.selects d.1.cls d.1 d.1 ∈ Ts ∧ (∃ r, cl[q.2.2.2.1]? = some r ∧ r.1 = d.1.cls) ∧ 0 < q.2.2.1 ∧ xNm d.1 (q.2.2.1 - 1)
    | 1 => d.2.2.2.2 = [] ∧ Cond.methodLink own q.1 d.1 ∈ Ts ∧ Cond.static d.1 ∈ Ts ∧ xNm d.1 q.2.2.1
    | 2 => d.2.2.2.2 = [] ∧ Cond.methodLink own q.1 d.1 ∈ Ts ∧ Cond.instanceMethod d.1 ∈ Ts ∧ d.1.name = "<init>" ∧ d.2.2.2.1 = none ∧ 0 < q.2.2.1 ∧ xNm d.1 (q.2.2.1 - 1)
    | 3 => d.2.2.2.2 = [] ∧ (∃ host, Cond.methodLinkNest own q.1 d.1 host ∈ nw) ∧ Cond.instanceMethod d.1 ∈ Ts ∧ d.1.name = "<init>" ∧ d.2.2.2.1 = none ∧ 0 < q.2.2.1 ∧ xNm d.1 (q.2.2.1 - 1)
    | 5 => d.2.2.2.2 ≠ [] ∧ Cond.methodLink own q.1 d.1 ∈ Ts ∧ Cond.static d.1 ∈ Ts ∧ xNm d.1 q.2.2.1
    | 6 => d.2.2.2.2 = [] ∧ (∃ host, Cond.methodLinkNest own q.1 d.1 host ∈ nw) ∧ Cond.static d.1 ∈ Ts ∧ xNm d.1 q.2.2.1
    | _ => False
theorem aStk_len : ∀ {S : List aV} {st : List Value}, aStk ρ α τ b S st → S.length = st.length
  | [], [], _ => rfl
  | _ :: S, _ :: st, h1 => by simp [aStk_len h1.2]
  | [], _ :: _, h1 => h1.elim
  | _ :: _, [], h1 => h1.elim
theorem aStk_app : ∀ {S S_q : List aV} {st st_q : List Value}, aStk ρ α τ b S st → aStk ρ α τ b S_q st_q → aStk ρ α τ b (S ++ S_q) (st ++ st_q)
  | [], _, [], _, _, h2 => h2
  | _ :: S, _, _ :: st, _, h1, h2 => ⟨h1.1, aStk_app h1.2 h2⟩
  | [], _, _ :: _, _, h1, _ => h1.elim
  | _ :: _, _, [], _, h1, _ => h1.elim
theorem aStk_rev : ∀ {S : List aV} {st : List Value}, aStk ρ α τ b S st → aStk ρ α τ b S.reverse st.reverse
  | [], [], _ => trivial
  | v :: S, x :: st, h1 => by
    rw [List.reverse_cons, List.reverse_cons]
    exact aStk_app (aStk_rev h1.2) ⟨h1.1, trivial⟩
  | [], _ :: _, h1 => h1.elim
  | _ :: _, [], h1 => h1.elim
theorem aStk_cut : ∀ (n : Nat) {S : List aV} {st : List Value}, aStk ρ α τ b S st → aStk ρ α τ b (S.take n) (st.take n) ∧ aStk ρ α τ b (S.drop n) (st.drop n)
  | 0, _, _, h1 => ⟨trivial, h1⟩
  | n + 1, [], [], _ => ⟨trivial, trivial⟩
  | n + 1, v :: S, x :: st, h1 => ⟨⟨h1.1, (aStk_cut n h1.2).1⟩, (aStk_cut n h1.2).2⟩
  | _ + 1, [], _ :: _, h1 => h1.elim
  | _ + 1, _ :: _, [], h1 => h1.elim
theorem aFst_at {β γ : Type} {f : β → Option γ} {y : γ} : ∀ {l : List β}, aFst f l = some y → ∃ x ∈ l, f x = some y
  | [], h => by cases h
  | x :: xs, h => by
    unfold aFst at h
    split at h
    · rename_i z hz
      cases h
      exact ⟨x, List.mem_cons_self, hz⟩
    · obtain ⟨x_q, h1, h2⟩ := aFst_at h
      exact ⟨x_q, List.mem_cons_of_mem _ h1, h2⟩
theorem asV_ok (C : xCx p s m args c cc nL Ts own D dA cl tA tyf B) (hE : xEnv D dA cl tA B nw nc ao s) (hlocks : meth.locks = false) (hH : aHg own Ts xn nw nc c hs9) (hJ : ∀ (n : Nat) (I : aI), J[n]? = some I → ∀ d : aMd, mth[I.1]? = some d → aMt D dA cl tA B nw nc ao W0 l kd b xn d.1 (aCw d) I) (hIv : ∀ q ∈ iv, aIg own Ts cl nw W0 mth mx q)
    (hA : aSx kd B b P hI ρ α τ σ lv st h) (hs : aSame own9.2.2.1.length own9.2.2.2.1 ρ0 ρ α0 α) (hm : own9.2.2.1.length ≤ σ.1.length) (hma : own9.2.2.2.1 ≤ σ.2.1) (hb : aSub τ0 τ) (hdg : decode cc pc = .ok (i, len)) (h1 : asV mx kd own9 hs9 J iv σ i len pc = some l1) (kk : (∀ q ∈ l1, ∀ (ρ_q : Nat → Int) (α_q τ_q : Nat → Option Nat) (lv_q : List (Nat × Value)) (st_q : List Value) (h_q : xH), aSame σ.1.length σ.2.1 ρ ρ_q α α_q → aSub τ τ_q → aSx kd B b P hI ρ_q α_q τ_q q.2 lv_q st_q h_q → xSafe p l e (aIr own9) s m args below meth c nL D dA cl tA B (xEnd below args s D dA cl tA B (aQf kd B b P hI ρ0 α0 τ0 own9) (aXf kd B b P hI ρ0 α0 τ0 xn own9) (aIr own9).cells (aIr own9).slots) q.1 lv_q st_q h_q q.2.2.2.2.2.2.1 q.2.2.2.2.2.2.2)) : xSafe p l e (aIr own9) s m args below meth c nL D dA cl tA B (xEnd below args s D dA cl tA B (aQf kd B b P hI ρ0 α0 τ0 own9) (aXf kd B b P hI ρ0 α0 τ0 xn own9) (aIr own9).cells (aIr own9).slots) pc lv st h σ.2.2.2.2.2.1 σ.2.2.2.2.2.2 := by
  unfold asV at h1
  split at h1
  · rename_i t ht
    split at h1
    · rename_i q hq
      split at h1
      · rename_i hc0
        obtain ⟨rfl, hsort⟩ := hc0
        have hqm := List.mem_of_find?_eq_some hq
        have hq1 : q.1 = t.1 := by simpa using List.find?_some hq
        have hg := hIv q hqm
        have hdi : (t.2 = 0 → i = .invokevirtual q.1) ∧ (t.2 = 1 → i = .invokestatic q.1) ∧ (t.2 = 2 → i = .invokespecial q.1) := by
          unfold aXx at ht
          split at ht <;> first | (cases ht; done) | skip
          · cases ht; rw [hq1]; exact ⟨fun _ => rfl, (fun q => by cases q), (fun q => by cases q)⟩
          · cases ht; rw [hq1]; exact ⟨(fun q => by cases q), fun _ => rfl, (fun q => by cases q)⟩
          · cases ht; rw [hq1]; exact ⟨(fun q => by cases q), (fun q => by cases q), fun _ => rfl⟩
        split at h1
        · rename_i h4
          unfold aIg at hg
          rw [if_pos h4] at hg
          have ht2 : t.2 = 2 := by
            rw [h4] at hsort
            exact Nat.eq_of_beq_eq_true hsort
          have hi := hdi.2.2 ht2
          subst hi
          split at h1
          · rename_i v S hS
            split at h1
            · rename_i hc
              cases h1
              have h3 := hA.1.2.2.1
              rw [hS] at h3
              obtain ⟨x, st_q, rfl, hx, h5⟩ := aStk_cons h3
              obtain ⟨a, rfl, -⟩ := aM_obj hx hc.1
              refine xs_objInit C hg.1 hg.2.1 hg.2.2 hc.2.1 ?_ hdg (kk _ List.mem_cons_self ρ α τ lv st_q h aSame_rf aSub_rf ⟨⟨hA.1.1, hA.1.2.1, h5, hA.1.2.2.2⟩, hA.2⟩)
              rw [aSum_ok h5]
              exact hc.2.2
            · cases h1
          · cases h1
        · rename_i h4
          unfold aIg at hg
          rw [if_neg h4] at hg
          obtain ⟨d, hd, hmx, hgi, hini, hg⟩ := hg
          obtain ⟨nn, hnn, h1⟩ := aFst_at h1
          unfold aTry at h1
          split at h1
          · rename_i I hJI
            split at h1
            · rename_i hc
              obtain ⟨c1, c2, c3, c4, c5, c6, c7⟩ := hc
              have hM := hJ nn I hJI d (by rw [c1]; exact hd)
              simp only [aRoomOk, Bool.and_eq_true] at c2
              obtain ⟨⟨⟨r1, r2⟩, r3⟩, r4⟩ := c2
              have r1 := Nat.le_of_ble_eq_true r1
              have r2 := Nat.le_of_ble_eq_true r2
              have r3 := Nat.le_of_ble_eq_true r3
              have r4 := Nat.le_of_ble_eq_true r4
              rw [c1, hmx] at r2
              have hrm : xRm (aIr own9) σ.2.2.2.2.2.1 σ.2.2.2.2.2.2 (aIr I) d.2.2.1 := ⟨r1, r2, r3, r4⟩
              obtain ⟨k1, k2⟩ := aStk_cut q.2.2.1 hA.1.2.2.1
              have hA1 : aSx kd B b P hI ρ α τ (aWS σ (σ.2.2.2.1.drop q.2.2.1)) lv (st.drop q.2.2.1) h := ⟨⟨hA.1.1, hA.1.2.1, k2, hA.1.2.2.2⟩, hA.2⟩
              have hA0 : aSx kd B b P hI ρ α τ (σ.1, σ.2.1, [], (σ.2.2.2.1.take q.2.2.1).reverse, σ.2.2.2.2) lv (st.take q.2.2.1).reverse h := ⟨⟨hA.1.1, (fun z hz => by cases hz), aStk_rev k1, hA.1.2.2.2⟩, hA.2⟩
              have hin := aIn_call (I := I) hA0 (aCk_parts c7).2.1
              have hcon := hM _ _ _ _ _ _ hin
              obtain ⟨kr, kx⟩ := aBehind_ok (av := []) C hE hlocks hH hA1 c7 hs hm hma hb ⟨r3, r4⟩ h1 kk
              have hlen : (st.take q.2.2.1).reverse.length = q.2.2.1 := by
                have := aStk_len hA.1.2.2.1
                simp
                omega
              have hsum : ((st.drop q.2.2.1).map fun v => v.category).sum ≤ 8 := by
                rw [aSum_ok k2]
                exact c4
              have hst : st = (st.take q.2.2.1).reverse.reverse ++ st.drop q.2.2.1 := by simp
              have hrecv : q.2.1 = 0 ∨ q.2.1 = 2 ∨ q.2.1 = 3 → ∃ a As N V, (st.take q.2.2.1).reverse = .ref a :: As ∧ h a = some (q.2.2.2.1, N, V) := by
                intro hk0
                have hrc := c5 hk0
                have k0 := hA0.1.2.2.1
                dsimp only at k0
                unfold aRcv at hrc
                split at hrc
                · rename_i v0 A hAe
                  rw [hAe] at k0
                  obtain ⟨x0, As, e0, k0, -⟩ := aStk_cons k0
                  split at hrc
                  · rename_i h2
                    split at hrc
                    · rename_i o ho
                      obtain ⟨a, rfl, hk⟩ := aM_obj k0 h2
                      obtain ⟨V, e1, e2, e3⟩ := aSx_obj hA ho hk
                      rw [Nat.eq_of_beq_eq_true hrc] at e2
                      exact ⟨a, As, _, V, e0, e2⟩
                    · cases hrc
                  · split at hrc
                    · rename_i h2
                      split at hrc
                      · rename_i K hK
                        obtain ⟨a, rfl, hk, hta⟩ := aM_knd k0 h2
                        obtain ⟨K_q, V, e1, e2, e3, e4⟩ := hA.1.2.2.2.2 a _ hta
                        cases hK.symm.trans e1
                        rw [Nat.eq_of_beq_eq_true hrc] at e3
                        exact ⟨a, As, _, V, e0, e3⟩
                      · cases hrc
                    · cases hrc
                · cases hrc
              have hnoX : q.2.1 = 2 ∨ q.2.1 = 3 ∨ q.2.1 = 5 → ∀ P9 h9 r9 a9 t9, aXf kd B b P9 h9 r9 a9 t9 xn I = fun _ _ => False := by
                intro hk0 P9 h9 r9 a9 t9
                have h7 := c6 hk0
                funext X h8
                apply eq_false
                rintro ⟨z, hz, -⟩
                rw [List.isEmpty_iff.mp h7] at hz
                cases hz
              generalize (st.take q.2.2.1).reverse = av at *
              generalize st.drop q.2.2.1 = st1 at *
              subst hst
              split at hg
              · rename_i hk0
                obtain ⟨g0, g1, g2, g3, ⟨r, g4, g5⟩, g6, g7⟩ := hg
                have hi := hdi.1 (by rw [hk0] at hsort; exact Nat.eq_of_beq_eq_true hsort)
                subst hi
                have hcw : aCw d = .code d.1 d.2.1 d.2.2.1 d.2.2.2.1 := by unfold aCw; rw [if_pos g0]
                rw [hcw] at hcon hgi
                obtain ⟨a, As, N, V, rfl, hha⟩ := hrecv (Or.inl hk0)
                have hlA : As.length = q.2.2.1 - 1 := by simp at hlen; omega
                have := xs_callV C hE hcon hgi g1 g2 g3 hini g7 hlA g4 g5 hha hrm hsum hdg kr kx
                rw [List.reverse_cons, List.append_assoc]
                exact this
              · rename_i hk0
                obtain ⟨g0, g1, g2, g7⟩ := hg
                have hi := hdi.2.1 (by rw [hk0] at hsort; exact Nat.eq_of_beq_eq_true hsort)
                subst hi
                have hcw : aCw d = .code d.1 d.2.1 d.2.2.1 d.2.2.2.1 := by unfold aCw; rw [if_pos g0]
                rw [hcw] at hcon hgi
                exact xs_callS C hE hcon hgi g1 g2 hini g7 hlen hrm hsum hdg kr kx
              · rename_i hk0
                obtain ⟨g0, g1, g2, g3, g4, g6, g7⟩ := hg
                have hi := hdi.2.2 (by rw [hk0] at hsort; exact Nat.eq_of_beq_eq_true hsort)
                subst hi
                have hcw : aCw d = .code d.1 d.2.1 d.2.2.1 none := by unfold aCw; rw [if_pos g0, g4]
                rw [hcw] at hcon hgi
                rw [hnoX (Or.inl hk0)] at hcon
                obtain ⟨a, As, N, V, rfl, hha⟩ := hrecv (Or.inr (Or.inl hk0))
                have hlA : As.length = q.2.2.1 - 1 := by simp at hlen; omega
                have := xs_callI C hE hcon hgi g1 g2 hini g3 g7 hlA hrm hsum hdg kr
                rw [List.reverse_cons, List.append_assoc]
                exact this
              · rename_i hk0
                obtain ⟨g0, ⟨host, g1⟩, g2, g3, g4, g6, g7⟩ := hg
                have hi := hdi.2.2 (by rw [hk0] at hsort; exact Nat.eq_of_beq_eq_true hsort)
                subst hi
                have hcw : aCw d = .code d.1 d.2.1 d.2.2.1 none := by unfold aCw; rw [if_pos g0, g4]
                rw [hcw] at hcon hgi
                rw [hnoX (Or.inr (Or.inl hk0))] at hcon
                obtain ⟨a, As, N, V, rfl, hha⟩ := hrecv (Or.inr (Or.inr hk0))
                have hlA : As.length = q.2.2.1 - 1 := by simp at hlen; omega
                have := xs_callIN C hE hcon hgi g1 g2 hini g3 g7 hlA hrm hsum hdg kr
                rw [List.reverse_cons, List.append_assoc]
                exact this
              · rename_i hk0
                obtain ⟨g0, g1, g2, g7⟩ := hg
                have hi := hdi.2.1 (by rw [hk0] at hsort; exact Nat.eq_of_beq_eq_true hsort)
                subst hi
                have hcw : aCw d = .codeWith d.1 d.2.1 d.2.2.1 d.2.2.2.1 d.2.2.2.2 := by unfold aCw; rw [if_neg g0]
                rw [hcw] at hcon hgi
                rw [hnoX (Or.inr (Or.inr hk0))] at hcon
                exact xs_callSW C hE hcon hgi g1 g2 hini g7 hlen hrm hsum hdg kr
              · rename_i hk0
                rw [hk0] at hsort
                cases hsort
              · exact hg.elim
            · cases h1
          · cases h1
      · cases h1
    · cases h1
  · cases h1
end XVk
