/-! ===== checks cut into pieces ===== -/
noncomputable def rAi {α : Type} (k : Nat → α → Bool) (l : List α) : Nat → Bool := @List.rec α (fun _ => Nat → Bool) (fun _ => true) (fun q _ ih i => rCo (k i q) (ih (Nat.succ i)) false) l
theorem rAi_ok {α : Type} {k : Nat → α → Bool} : ∀ {l : List α} {i : Nat}, rAi k l i = true → ∀ (j : Nat) (q : α), l[j]? = some q → k (i + j) q = true
  | [], _, _, j, q, hq => by simp at hq
  | x :: l, i, h, j, q, hq => by
    have h : rCo (k i x) (rAi k l (i + 1)) false = true := h
    obtain ⟨h1, h2⟩ := rcn.mp h
    cases j with
    | zero =>
      simp only [List.getElem?_cons_zero, Option.some.injEq] at hq
      subst hq
      exact h1
    | succ j =>
      simp only [List.getElem?_cons_succ] at hq
      have := rAi_ok h2 j q hq
      rw [show i + (j + 1) = i + 1 + j by omega]
      exact this
def rOl {α : Type} : List α → Option α
  | [q] => some q
  | _ => none
theorem rOl_eq {α : Type} {l : List α} {q : α} (h : rOl l = some q) : l = [q] := by
  cases l with
  | nil => cases h
  | cons x r =>
    cases r with
    | nil => cases h; rfl
    | cons _ _ => cases h
def rNl : List Nat → List Nat → Bool
  | [], [] => true
  | a :: r, b :: s => Nat.beq a b && rNl r s
  | _, _ => false
theorem rNl_eq : ∀ {a b : List Nat}, rNl a b = true → a = b
  | [], [], _ => rfl
  | [], _ :: _, h => by cases h
  | _ :: _, [], h => by cases h
  | a :: r, b :: s, h => by
    simp only [rNl, Bool.and_eq_true] at h
    rw [Nat.eq_of_beq_eq_true h.1, rNl_eq h.2]
section X54
variable {sc : Bool} {mx : List Nat} {W : List rGr} {T : List rIT} {own : rI} {J : List rI} {Bd : rBd} {ann : List (Nat × rS × rX)} {r0 : Option rX}
/-- the state behind the given choices -/
noncomputable def rHol (sc : Bool) (mx : List Nat) (W : List rGr) (T : List rIT) (own : rI) (J : List rI) (Bd : rBd) : Nat → List Nat → Nat → rS → Option (Nat × rS)
  | 0, cs, pc, σ => (match cs with
    | [] => some (pc, σ)
    | _ :: _ => none)
  | f + 1, cs, pc, σ => (match cs with
    | [] => some (pc, σ)
    | c :: r => (match rSp sc mx W T own J Bd σ pc with
      | none => none
      | some l => (match rOl l with
        | some q => rHol sc mx W T own J Bd f (c :: r) q.1 q.2
        | none => (match l[c]? with
          | some q => rHol sc mx W T own J Bd f r q.1 q.2
          | none => none))))
theorem rHol_nil : ∀ {f pc : Nat} {σ : rS}, rHol sc mx W T own J Bd f [] pc σ = some (pc, σ)
  | 0, _, _ => rfl
  | _ + 1, _, _ => rfl
/-- as rEx, but for the states behind the choices of hs -/
noncomputable def rXh (sc : Bool) (mx : List Nat) (W : List rGr) (T : List rIT) (own : rI) (J : List rI) (Bd : rBd) (ann : List (Nat × rS × rX)) (r0 : Option rX) (hs : List (List Nat)) : Nat → List Nat → Nat → rS → Bool
  | 0, _, _, _ => false
  | f + 1, pa, pc, σ => (match rSp sc mx W T own J Bd σ pc with
    | none => false
    | some l => (match rOl l with
      | some q => Nat.ble σ.1.length q.2.1.length && (ann.any (fun a => Nat.beq a.1 q.1 && rMg W T own.2.2.2.1 own.2.2.1.1.length r0 q.2 a.2) || rXh sc mx W T own J Bd ann r0 hs f pa q.1 q.2)
      | none => rAi (fun i q => Nat.ble σ.1.length q.2.1.length && (ann.any (fun a => Nat.beq a.1 q.1 && rMg W T own.2.2.2.1 own.2.2.1.1.length r0 q.2 a.2) || (hs.any (fun h => rNl h (pa ++ [i])) || rXh sc mx W T own J Bd ann r0 hs f (pa ++ [i]) q.1 q.2))) l 0))
theorem rEx_up : ∀ {f pc : Nat} {σ : rS}, rEx sc mx W T own J Bd ann r0 f pc σ = true → rEx sc mx W T own J Bd ann r0 (f + 1) pc σ = true
  | 0, _, _, h => by cases h
  | f + 1, pc, σ, h => by
    unfold rEx at h ⊢
    cases hl : rSp sc mx W T own J Bd σ pc with
    | none => rw [hl] at h; cases h
    | some l =>
      rw [hl] at h
      dsimp only at h ⊢
      refine List.all_eq_true.mpr fun q hq => ?_
      have h1 := List.all_eq_true.mp h q hq
      simp only [Bool.and_eq_true, Bool.or_eq_true] at h1 ⊢
      exact ⟨h1.1, h1.2.imp id (fun h2 => rEx_up h2)⟩
theorem rEx_add {f pc : Nat} {σ : rS} (h : rEx sc mx W T own J Bd ann r0 f pc σ = true) : ∀ n : Nat, rEx sc mx W T own J Bd ann r0 (n + f) pc σ = true
  | 0 => by rw [Nat.zero_add]; exact h
  | n + 1 => by
    rw [show n + 1 + f = (n + f) + 1 by omega]
    exact rEx_up (rEx_add h n)
theorem rXh_ok {hs : List (List Nat)} {G F pc0 : Nat} {σ0 : rS} (hh : ∀ h ∈ hs, ∃ q : Nat × rS, rHol sc mx W T own J Bd G h pc0 σ0 = some q ∧ rEx sc mx W T own J Bd ann r0 F q.1 q.2 = true) :
    ∀ {f : Nat} {pa : List Nat} {pc : Nat} {σ : rS}, rXh sc mx W T own J Bd ann r0 hs f pa pc σ = true → (∀ (c : Nat) (cs : List Nat), rHol sc mx W T own J Bd G (pa ++ c :: cs) pc0 σ0 = rHol sc mx W T own J Bd f (c :: cs) pc σ) → rEx sc mx W T own J Bd ann r0 (f + F) pc σ = true
  | 0, _, _, _, h, _ => by cases h
  | f + 1, pa, pc, σ, h, hr => by
    rw [show f + 1 + F = (f + F) + 1 by omega]
    unfold rEx
    unfold rXh at h
    cases hl : rSp sc mx W T own J Bd σ pc with
    | none => rw [hl] at h; cases h
    | some l =>
      rw [hl] at h
      dsimp only at h ⊢
      cases ho : rOl l with
      | some q =>
        rw [ho] at h
        dsimp only at h
        have hl1 := rOl_eq ho
        refine List.all_eq_true.mpr fun q' hq => ?_
        rw [hl1, List.mem_singleton] at hq
        subst hq
        simp only [Bool.and_eq_true, Bool.or_eq_true] at h ⊢
        refine ⟨h.1, h.2.imp id (fun h2 => rXh_ok hh h2 (fun c cs => ?_))⟩
        rw [hr c cs]
        show (match rSp sc mx W T own J Bd σ pc with
          | none => none
          | some l => (match rOl l with
            | some q => rHol sc mx W T own J Bd f (c :: cs) q.1 q.2
            | none => (match l[c]? with
              | some q => rHol sc mx W T own J Bd f cs q.1 q.2
              | none => none))) = _
        rw [hl]
        dsimp only
        rw [ho]
      | none =>
        rw [ho] at h
        dsimp only at h
        refine List.all_eq_true.mpr fun q hq => ?_
        obtain ⟨i, hi⟩ := List.mem_iff_getElem?.mp hq
        have h1 := rAi_ok h i q hi
        rw [Nat.zero_add] at h1
        have hw : ∀ cs : List Nat, rHol sc mx W T own J Bd G (pa ++ i :: cs) pc0 σ0 = rHol sc mx W T own J Bd f cs q.1 q.2 := fun cs => by
          rw [hr i cs]
          show (match rSp sc mx W T own J Bd σ pc with
            | none => none
            | some l => (match rOl l with
              | some q => rHol sc mx W T own J Bd f (i :: cs) q.1 q.2
              | none => (match l[i]? with
                | some q => rHol sc mx W T own J Bd f cs q.1 q.2
                | none => none))) = _
          rw [hl]
          dsimp only
          rw [ho]
          dsimp only
          rw [hi]
        simp only [Bool.and_eq_true, Bool.or_eq_true] at h1 ⊢
        refine ⟨h1.1, ?_⟩
        rcases h1.2 with h2 | h2 | h2
        · exact Or.inl h2
        · obtain ⟨z, hz, e⟩ := List.any_eq_true.mp h2
          have e := rNl_eq e
          subst e
          obtain ⟨q', f1, f2⟩ := hh _ hz
          rw [hw [], rHol_nil] at f1
          cases f1
          exact Or.inr (rEx_add f2 f)
        · refine Or.inr (rXh_ok hh h2 (fun c cs => ?_))
          rw [List.append_assoc]
          exact hw (c :: cs)
/-- the state behind the choices h, checked -/
noncomputable def rHo (sc : Bool) (mx : List Nat) (W : List rGr) (T : List rIT) (own : rI) (J : List rI) (Bd : rBd) (ann : List (Nat × rS × rX)) (r0 : Option rX) (G F : Nat) (h : List Nat) (pc : Nat) (σ : rS) : Bool := match rHol sc mx W T own J Bd G h pc σ with
  | some q => rEx sc mx W T own J Bd ann r0 F q.1 q.2
  | none => false
theorem rCutH {hs : List (List Nat)} {pc : Nat} {σ : rS} (h1 : rXh sc mx W T own J Bd ann r0 hs 1500 [] pc σ = true) (h2 : ∀ h ∈ hs, rHo sc mx W T own J Bd ann r0 1500 1500 h pc σ = true) : rEx sc mx W T own J Bd ann r0 3000 pc σ = true := by
  refine rXh_ok (G := 1500) (F := 1500) (pc0 := pc) (σ0 := σ) (fun h hm => ?_) h1 (fun c cs => rfl)
  have h3 := h2 h hm
  unfold rHo at h3
  split at h3
  · rename_i q hq
    exact ⟨q, hq, h3⟩
  · cases h3
/-! ===== the ends' list of what is true at all places, in pieces ===== -/
noncomputable def sEi (is : List Nat) (E : rS) : rS := (E.1, E.2.1, E.2.2.1, E.2.2.2.1, (match E.2.2.2.2.1 with | [d] => [(d.1, d.2.1, d.2.2.1, is)] | c => c), E.2.2.2.2.2)
noncomputable def sI (own : rI) (is : List Nat) : rI := (own.1, own.2.1, own.2.2.1, own.2.2.2.1, own.2.2.2.2.1.map (sEi is), own.2.2.2.2.2)
theorem rMs_p {m pv : Nat} {Γ : List rX} {ch : List rD} {ex : List rX} {P P' : rS} (e : P.1 = P'.1) : ∀ {qs : List rMm} {R : aRg} {M : List rMm} {θ : List (Nat × rX)}, rMs m W Γ ch ex P pv R M θ qs = rMs m W Γ ch ex P' pv R M θ qs
  | [], _, _, _ => rfl
  | q :: r, R, M, θ => by
    unfold rMs
    rw [e]
    split
    · split
      · exact rMs_p e
      · rfl
    · exact rMs_p e
theorem rMat_j {j0 i1 i2 : List Nat} {m : Nat} {σ E : rS} (h1 : rMat W T j0 m σ (sEi i1 E) = true) (h2 : rMat W T j0 m σ (sEi i2 E) = true) : rMat W T j0 m σ (sEi (i1 ++ i2) E) = true := by
  obtain ⟨R, Γ, L, S, ch, M, k, n⟩ := E
  cases ch with
  | nil => exact h1
  | cons d ds =>
    cases ds with
    | cons _ _ => exact h1
    | nil =>
      unfold rMat at h1 h2 ⊢
      have e : ∀ is, rMt0 W σ (sEi is (R, Γ, L, S, [d], M, k, n)) [] m 1 = rMt0 W σ (R, Γ, L, S, [d], M, k, n) [] m 1 := fun is => by
        unfold rMt0
        rw [rMs_p (P' := (R, Γ, L, S, [d], M, k, n)) (show (sEi is (R, Γ, L, S, [d], M, k, n)).1 = R from rfl)]
        rfl
      rw [e] at h1 h2 ⊢
      cases hz : rMt0 W σ (R, Γ, L, S, [d], M, k, n) [] m 1 with
      | none => rw [hz] at h1; cases h1
      | some z =>
        rw [hz] at h1 h2
        dsimp only at h1 h2 ⊢
        unfold rCk at h1 h2 ⊢
        dsimp only [sEi] at h1 h2 ⊢
        simp only [Bool.and_eq_true, List.all_append] at h1 h2 ⊢
        obtain ⟨⟨⟨⟨⟨⟨⟨⟨a1, a2⟩, a3⟩, a4⟩, a5⟩, ⟨⟨⟨⟨b1, b2⟩, b3⟩, b4⟩, b5⟩⟩, c1⟩, c2⟩, d1⟩ := h1
        obtain ⟨⟨⟨⟨⟨⟨⟨⟨-, -⟩, -⟩, -⟩, -⟩, ⟨⟨⟨⟨-, -⟩, -⟩, g4⟩, -⟩⟩, -⟩, -⟩, -⟩ := h2
        exact ⟨⟨⟨⟨⟨⟨⟨⟨a1, a2⟩, a3⟩, a4⟩, a5⟩, ⟨⟨⟨⟨b1, b2⟩, b3⟩, ⟨b4, g4⟩⟩, b5⟩⟩, c1⟩, c2⟩, d1⟩
def rJn {γ : Type} (x y z : Option γ) : Prop := ∀ l1 l2, x = some l1 → y = some l2 → l1 = l2 ∧ z = some l1
theorem rJn_same {γ : Type} {a : Option γ} : rJn a a a := fun l1 l2 h1 h2 => ⟨Option.some.inj (h1.symm.trans h2), h1⟩
theorem rJn_or {γ : Type} {a x y z : Option γ} (h : rJn x y z) : rJn (aOr a x) (aOr a y) (aOr a z) := by
  cases a with
  | none => exact h
  | some v => exact rJn_same
theorem rJn_all {γ α : Type} {f g k : α → Option (List γ)} : ∀ {l : List α}, (∀ a ∈ l, rJn (f a) (g a) (k a)) → rJn (aAll (l.map f)) (aAll (l.map g)) (aAll (l.map k))
  | [], _ => rJn_same
  | a :: l, h => by
    intro l1 l2 h1 h2
    have hA := h a List.mem_cons_self
    have hB := rJn_all (fun b hb => h b (List.mem_cons_of_mem _ hb))
    simp only [List.map_cons] at h1 h2 ⊢
    cases e1 : f a with
    | none => rw [e1] at h1; cases h1
    | some x1 =>
      cases e2 : g a with
      | none => rw [e2] at h2; cases h2
      | some x2 =>
        obtain ⟨e3, e4⟩ := hA _ _ e1 e2
        rw [e1] at h1
        rw [e2] at h2
        rw [e4]
        simp only [aAll] at h1 h2 ⊢
        cases f1 : aAll (l.map f) with
        | none => rw [f1] at h1; cases h1
        | some y1 =>
          cases f2 : aAll (l.map g) with
          | none => rw [f2] at h2; cases h2
          | some y2 =>
            obtain ⟨f3, f4⟩ := hB _ _ f1 f2
            rw [f1] at h1
            rw [f2] at h2
            rw [f4]
            cases h1
            cases h2
            rw [← e3, ← f3]
            exact ⟨rfl, rfl⟩
theorem rRt_j {i1 i2 : List Nat} {σ : rS} {E : rS} (hE : own.2.2.2.2.1 = [E]) (h1 : rRt W T (sI own i1) σ = true) (h2 : rRt W T (sI own i2) σ = true) : rRt W T (sI own (i1 ++ i2)) σ = true := by
  have e : ∀ is, rRt W T (sI own is) σ = rMat W T own.2.2.2.1 own.2.2.1.1.length (rNoL σ σ.2.2.2.1) (sEi is E) := by
    intro is
    show (own.2.2.2.2.1.map (sEi is)).any (fun E => rMat W T own.2.2.2.1 own.2.2.1.1.length (rNoL σ σ.2.2.2.1) E) = _
    rw [hE]
    simp only [List.map_cons, List.map_nil, List.any_cons, List.any_nil, Bool.or_false]
  rw [e] at h1 h2 ⊢
  exact rMat_j h1 h2
theorem rsR_j {i1 i2 : List Nat} {σ : rS} {E : rS} {rtc len : Nat} {i : Instr} (hE : own.2.2.2.2.1 = [E]) : rJn (rsR W T (sI own i1) rtc σ i len) (rsR W T (sI own i2) rtc σ i len) (rsR W T (sI own (i1 ++ i2)) rtc σ i len) := by
  intro l1 l2 h1 h2
  unfold rsR at h1 h2 ⊢
  cases i
  case ireturn =>
    dsimp only at h1 h2 ⊢
    split at h1
    · rename_i hS
      rw [hS] at h2
      dsimp only at h2
      split at h1
      · rename_i hc
        split at h2
        · rename_i hc2
          cases h1
          cases h2
          rw [if_pos ⟨hc.1, hc.2.1, hc.2.2.1, rRt_j hE hc.2.2.2 hc2.2.2.2⟩]
          exact ⟨rfl, rfl⟩
        · cases h2
      · cases h1
    · cases h1
  case lreturn =>
    dsimp only at h1 h2 ⊢
    split at h1
    · rename_i hS
      rw [hS] at h2
      dsimp only at h2
      split at h1
      · rename_i hc
        split at h2
        · rename_i hc2
          cases h1
          cases h2
          rw [if_pos ⟨hc.1, hc.2.1, hc.2.2.1, rRt_j hE hc.2.2.2 hc2.2.2.2⟩]
          exact ⟨rfl, rfl⟩
        · cases h2
      · cases h1
    · cases h1
  case areturn =>
    dsimp only at h1 h2 ⊢
    split at h1
    · rename_i hS
      rw [hS] at h2
      dsimp only at h2
      split at h1
      · rename_i hc
        split at h2
        · rename_i hc2
          cases h1
          cases h2
          rw [if_pos ⟨hc.1, hc.2.1, hc.2.2.1, rRt_j hE hc.2.2.2 hc2.2.2.2⟩]
          exact ⟨rfl, rfl⟩
        · cases h2
      · cases h1
    · cases h1
  case return_ =>
    dsimp only at h1 h2 ⊢
    split at h1
    · rename_i hS
      rw [hS] at h2
      dsimp only at h2
      split at h1
      · rename_i hc
        split at h2
        · rename_i hc2
          cases h1
          cases h2
          rw [if_pos ⟨hc.1, hc.2.1, rRt_j hE hc.2.2 hc2.2.2⟩]
          exact ⟨rfl, rfl⟩
        · cases h2
      · cases h1
    · cases h1
  all_goals cases h1
theorem rsV_s {is : List Nat} {hs : List (Nat × Nat × Nat × Nat × Nat)} {iv : List aIv} {σ : rS} {i : Instr} {len pc : Nat} : rsV mx W T (sI own is) hs J iv σ i len pc = rsV mx W T own hs J iv σ i len pc := rfl
theorem rsU_s {is : List Nat} {cp : List Nat} {σ : rS} {i : Instr} {len pc : Nat} : rsU W (sI own is) cp σ i len pc = rsU W own cp σ i len pc := rfl
theorem rThw_s {is : List Nat} {B9 : aBd} {σ : rS} {pc : Nat} {q : Nat × Nat × Nat} : rThw W T (sI own is) B9 σ pc q = rThw W T own B9 σ pc q := rfl
theorem rOne1_j {i1 i2 : List Nat} {σ : rS} {E : rS} {B9 : aBd} {cp : List Nat} {pc len : Nat} {i : Instr} (hE : own.2.2.2.2.1 = [E]) : rJn (rOne1 sc mx W T (sI own i1) J B9 cp σ pc i len) (rOne1 sc mx W T (sI own i2) J B9 cp σ pc i len) (rOne1 sc mx W T (sI own (i1 ++ i2)) J B9 cp σ pc i len) := by
  unfold rOne1
  simp only [rsV_s, rsU_s]
  refine rJn_or (rJn_or (rJn_or (rJn_or (rJn_or (rJn_or (rJn_or (rJn_or (rJn_or (rJn_or (rJn_or (rJn_or (rJn_or (rJn_or (rJn_or (rJn_or (rJn_or (rJn_or (rJn_or ?_))))))))))))))))))
  show rJn (if σ.2.2.2.2.2.2.1 ≤ own.2.1.2.2.2.2.1 ∧ σ.2.2.2.2.2.2.2 ≤ own.2.1.2.2.2.2.2 then rsR W T (sI own i1) B9.2.2.2.2.2.2 σ i len else none) (if σ.2.2.2.2.2.2.1 ≤ own.2.1.2.2.2.2.1 ∧ σ.2.2.2.2.2.2.2 ≤ own.2.1.2.2.2.2.2 then rsR W T (sI own i2) B9.2.2.2.2.2.2 σ i len else none) (if σ.2.2.2.2.2.2.1 ≤ own.2.1.2.2.2.2.1 ∧ σ.2.2.2.2.2.2.2 ≤ own.2.1.2.2.2.2.2 then rsR W T (sI own (i1 ++ i2)) B9.2.2.2.2.2.2 σ i len else none)
  split
  · exact rsR_j hE
  · exact rJn_same
theorem rSp_j {i1 i2 : List Nat} {σ : rS} {E : rS} {pc : Nat} (hE : own.2.2.2.2.1 = [E]) : rJn (rSp sc mx W T (sI own i1) J Bd σ pc) (rSp sc mx W T (sI own i2) J Bd σ pc) (rSp sc mx W T (sI own (i1 ++ i2)) J Bd σ pc) := by
  unfold rSp
  refine rJn_all (fun a _ => ?_)
  unfold rSp1
  simp only [rThw_s]
  show rJn (match rHt W T own.2.2.2.1 pc Bd.2.1 a with | none => _ | some σ1 => _) (match rHt W T own.2.2.2.1 pc Bd.2.1 a with | none => _ | some σ1 => _) (match rHt W T own.2.2.2.1 pc Bd.2.1 a with | none => _ | some σ1 => _)
  cases rHt W T own.2.2.2.1 pc Bd.2.1 a with
  | none => exact rJn_same
  | some σ1 =>
    dsimp only
    cases rF1 Bd.1.2.2.2.2.1 pc with
    | some q => exact rJn_same
    | none =>
      dsimp only
      cases rF1 Bd.1.2.1 pc with
      | none => exact rJn_same
      | some il => exact rOne1_j hE
theorem rEx_j {i1 i2 : List Nat} {E : rS} (hE : own.2.2.2.2.1 = [E]) : ∀ {f pc : Nat} {σ : rS}, rEx sc mx W T (sI own i1) J Bd ann r0 f pc σ = true → rEx sc mx W T (sI own i2) J Bd ann r0 f pc σ = true → rEx sc mx W T (sI own (i1 ++ i2)) J Bd ann r0 f pc σ = true
  | 0, _, _, h, _ => by cases h
  | f + 1, pc, σ, h1, h2 => by
    unfold rEx at h1 h2 ⊢
    cases e1 : rSp sc mx W T (sI own i1) J Bd σ pc with
    | none => rw [e1] at h1; cases h1
    | some l1 =>
      cases e2 : rSp sc mx W T (sI own i2) J Bd σ pc with
      | none => rw [e2] at h2; cases h2
      | some l2 =>
        obtain ⟨e3, e4⟩ := rSp_j hE _ _ e1 e2
        subst e3
        rw [e1] at h1
        rw [e2] at h2
        rw [e4]
        dsimp only at h1 h2 ⊢
        refine List.all_eq_true.mpr fun q hq => ?_
        have g1 := List.all_eq_true.mp h1 q hq
        have g2 := List.all_eq_true.mp h2 q hq
        simp only [Bool.and_eq_true, Bool.or_eq_true] at g1 g2 ⊢
        refine ⟨g1.1, ?_⟩
        rcases g1.2 with k1 | k1
        · exact Or.inl k1
        rcases g2.2 with k2 | k2
        · exact Or.inl k2
        exact Or.inr (rEx_j hE k1 k2)
end X54
/-! ===== the pieces of a case ===== -/
noncomputable def rCx (n : Nat) (k : rI → List rI → rBd → List (Nat × rS × rX) → Bool) : Bool := match uJL[n]?, uAn[n]? with
  | some I, some a => (match uBds[I.1]? with
    | some Bd => k I (uJL.take n) (Bd, a.2) a.1
    | none => false)
  | _, _ => false
theorem rCx_at {n : Nat} {k1 : rI → List rI → rBd → List (Nat × rS × rX) → Bool} (h : rCx n k1 = true) : ∃ I J Bd ann, ∀ k', rCx n k' = k' I J Bd ann := by
  unfold rCx at h
  split at h
  · rename_i I a hI ha
    split at h
    · rename_i Bd hBd
      exact ⟨I, uJL.take n, (Bd, a.2), a.1, fun k' => by unfold rCx; rw [hI, ha]; dsimp only; rw [hBd]⟩
    · cases h
  · cases h
noncomputable def kN (N : Nat) : rI → List rI → rBd → List (Nat × rS × rX) → Bool := fun I _ _ ann => Nat.ble (I.2.2.1.2.2.2.1.map rcat).sum (uMx.getD I.1 0) && Nat.ble ann.length N
noncomputable def kE : rI → List rI → rBd → List (Nat × rS × rX) → Bool := fun I J Bd ann => rEx false uMx uW uT I J Bd ann none 3000 0 (rEnt I)
noncomputable def kEx (hs : List (List Nat)) : rI → List rI → rBd → List (Nat × rS × rX) → Bool := fun I J Bd ann => rXh false uMx uW uT I J Bd ann none hs 1500 [] 0 (rEnt I)
noncomputable def kEh (h : List Nat) : rI → List rI → rBd → List (Nat × rS × rX) → Bool := fun I J Bd ann => rHo false uMx uW uT I J Bd ann none 1500 1500 h 0 (rEnt I)
noncomputable def kEi (is : List Nat) : rI → List rI → rBd → List (Nat × rS × rX) → Bool := fun I J Bd ann => rEx false uMx uW uT (sI I is) J Bd ann none 3000 0 (rEnt I)
noncomputable def kIs (is : List Nat) : rI → List rI → rBd → List (Nat × rS × rX) → Bool := fun I _ _ _ => match I.2.2.2.2.1 with
  | [E] => (match E.2.2.2.2.1 with
    | [d] => rNl d.2.2.2 is
    | _ => false)
  | _ => false
noncomputable def kW0 (i : Nat) : rI → List rI → rBd → List (Nat × rS × rX) → Bool := fun I _ _ ann => match ann[i]? with
  | some a => Nat.ble I.2.2.1.1.length a.2.1.1.length && rWx a.2.1.1.length a.2.2
  | none => true
noncomputable def kA (i : Nat) : rI → List rI → rBd → List (Nat × rS × rX) → Bool := fun I J Bd ann => match ann[i]? with
  | some a => rEx false uMx uW uT I J Bd ann (some a.2.2) 3000 a.1 a.2.1
  | none => true
noncomputable def kAx (i : Nat) (hs : List (List Nat)) : rI → List rI → rBd → List (Nat × rS × rX) → Bool := fun I J Bd ann => match ann[i]? with
  | some a => rXh false uMx uW uT I J Bd ann (some a.2.2) hs 1500 [] a.1 a.2.1
  | none => true
noncomputable def kAh (i : Nat) (h : List Nat) : rI → List rI → rBd → List (Nat × rS × rX) → Bool := fun I J Bd ann => match ann[i]? with
  | some a => rHo false uMx uW uT I J Bd ann (some a.2.2) 1500 1500 h a.1 a.2.1
  | none => true
theorem kE_cut {n : Nat} {hs : List (List Nat)} (h1 : rCx n (kEx hs) = true) (h2 : ∀ h ∈ hs, rCx n (kEh h) = true) : rCx n kE = true := by
  obtain ⟨I, J, Bd, ann, hk⟩ := rCx_at h1
  rw [hk] at h1 ⊢
  exact rCutH h1 (fun h hm => by have := h2 h hm; rw [hk] at this; exact this)
theorem kA_cut {n i : Nat} {hs : List (List Nat)} (h1 : rCx n (kAx i hs) = true) (h2 : ∀ h ∈ hs, rCx n (kAh i h) = true) : rCx n (kA i) = true := by
  obtain ⟨I, J, Bd, ann, hk⟩ := rCx_at h1
  rw [hk] at h1 ⊢
  unfold kA
  unfold kAx at h1
  cases ha : ann[i]? with
  | none => rfl
  | some a =>
    rw [ha] at h1
    refine rCutH h1 (fun h hm => ?_)
    have := h2 h hm
    rw [hk] at this
    unfold kAh at this
    rw [ha] at this
    exact this
theorem sI_self {I : rI} {E : rS} {d : rD} (h1 : I.2.2.2.2.1 = [E]) (h2 : E.2.2.2.2.1 = [d]) : sI I d.2.2.2 = I := by
  obtain ⟨a, b, c, e, f, g⟩ := I
  obtain ⟨R, Γ, L, S, ch, M, k, n⟩ := E
  dsimp only at h1 h2
  subst h1
  subst h2
  rfl
theorem kEi_j {n : Nat} {is i1 i2 : List Nat} (h0 : rCx n (kIs is) = true) (h1 : rCx n (kEi i1) = true) (h2 : rCx n (kEi i2) = true) : rCx n (kEi (i1 ++ i2)) = true := by
  obtain ⟨I, J, Bd, ann, hk⟩ := rCx_at h0
  rw [hk] at h0 h1 h2 ⊢
  unfold kIs at h0
  split at h0
  · rename_i E hE
    exact rEx_j hE h1 h2
  · cases h0
theorem kEi_ok {n : Nat} {is : List Nat} (h0 : rCx n (kIs is) = true) (h1 : rCx n (kEi is) = true) : rCx n kE = true := by
  obtain ⟨I, J, Bd, ann, hk⟩ := rCx_at h0
  rw [hk] at h0 h1 ⊢
  unfold kIs at h0
  split at h0
  · rename_i E hE
    split at h0
    · rename_i d hd
      have e := rNl_eq h0
      subst e
      unfold kEi at h1
      rw [sI_self hE hd] at h1
      exact h1
    · cases h0
  · cases h0
theorem kOf {n N : Nat} (h0 : rCx n (kN N) = true) (he : rCx n kE = true) (hw : ∀ i ∈ List.range N, rCx n (kW0 i) = true) (ha : ∀ i ∈ List.range N, rCx n (kA i) = true) : rCkn 3000 uMx uW uT uJL uAn uBds n = true := by
  have e : rCkn 3000 uMx uW uT uJL uAn uBds n = rCx n (fun I J Bd ann => rOkB 3000 false uMx uW uT I J Bd ann (rEnt I) && Nat.ble (I.2.2.1.2.2.2.1.map rcat).sum (uMx.getD I.1 0)) := rfl
  rw [e]
  obtain ⟨I, J, Bd, ann, hk⟩ := rCx_at h0
  rw [hk] at h0 he ⊢
  unfold kN at h0
  simp only [Bool.and_eq_true] at h0 ⊢
  refine ⟨?_, h0.1⟩
  unfold rOkB
  simp only [Bool.and_eq_true]
  refine ⟨he, List.all_eq_true.mpr fun a hm => ?_⟩
  obtain ⟨i, hi⟩ := List.mem_iff_getElem?.mp hm
  have hlt := (List.getElem?_eq_some_iff.mp hi).1
  have hm : i ∈ List.range N := List.mem_range.mpr (Nat.lt_of_lt_of_le hlt (Nat.le_of_ble_eq_true h0.2))
  have g1 := hw i hm
  have g2 := ha i hm
  rw [hk] at g1 g2
  unfold kW0 at g1
  unfold kA at g2
  rw [hi] at g1 g2
  simp only [Bool.and_eq_true] at g1 ⊢
  exact ⟨g1, g2⟩
