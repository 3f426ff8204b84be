def asort (v : aV) : Nat := if v.1 = 0 then 0 else if v.1 = 1 then 1 else 2
def acat (v : aV) : Nat := if v.1 = 1 then 2 else 1
theorem asort_ok {ρ : Nat → Int} {α τ : Nat → Option Nat} {b : aSc} {v : aV} {x : Value} (h : aM ρ α τ b v x) : xsort x = asort v := by
  obtain ⟨t, k, o⟩ := v
  unfold aM at h
  dsimp only at h
  split at h
  · obtain ⟨z, rfl, -⟩ := h; rfl
  · obtain ⟨z, rfl, -⟩ := h; rfl
  · obtain ⟨z, rfl, -⟩ := h; rfl
  · subst h; rfl
  · obtain ⟨z, rfl, -⟩ := h; rfl
  · rcases h with ⟨rfl, -⟩ | ⟨z, rfl, -⟩ <;> rfl
  · obtain ⟨rfl, -⟩ := h; rfl
  · obtain ⟨a, rfl⟩ := h; rfl
  · exact h.elim
theorem acat_ok {ρ : Nat → Int} {α τ : Nat → Option Nat} {b : aSc} {v : aV} {x : Value} (h : aM ρ α τ b v x) : x.category = acat v := by
  obtain ⟨t, k, o⟩ := v
  unfold aM at h
  dsimp only at h
  split at h
  · obtain ⟨z, rfl, -⟩ := h; rfl
  · obtain ⟨z, rfl, -⟩ := h; rfl
  · obtain ⟨z, rfl, -⟩ := h; rfl
  · subst h; rfl
  · obtain ⟨z, rfl, -⟩ := h; rfl
  · rcases h with ⟨rfl, -⟩ | ⟨z, rfl, -⟩ <;> rfl
  · obtain ⟨rfl, -⟩ := h; rfl
  · obtain ⟨a, rfl⟩ := h; rfl
  · exact h.elim
def aget (L : List (Nat × aV)) (ix : Nat) : Option aV := (L.find? (fun q => q.1 == ix)).map (fun q => q.2)
theorem aget_mem {L : List (Nat × aV)} {ix : Nat} {v : aV} (h : aget L ix = some v) : (ix, v) ∈ L := by
  unfold aget at h
  cases e : L.find? (fun q => q.1 == ix) with
  | none => rw [e] at h; cases h
  | some q =>
    rw [e] at h
    have h1 := List.mem_of_find?_eq_some e
    have h2 : (q.1 == ix) = true := by simpa using List.find?_some e
    have h3 : q.1 = ix := by simpa using h2
    have h4 : q.2 = v := by simpa using h
    have h5 : q = (ix, v) := Prod.ext h3 h4
    rw [h5] at h1
    exact h1
def aset (L : List (Nat × aV)) (ix : Nat) (v : aV) : List (Nat × aV) := (ix, v) :: L.filter (fun q => !(q.1 == ix) && (!(q.1 + 1 == ix && acat q.2 == 2) && !(acat v == 2 && q.1 == ix + 1)))
theorem find_filter {β : Type} {p f : β → Bool} {a : β} : ∀ {l : List β}, l.find? p = some a → f a = true → (l.filter f).find? p = some a
  | [], h, _ => by cases h
  | x :: xs, h, hf => by
    by_cases hx : p x = true
    · rw [List.find?_cons_of_pos hx] at h
      cases h
      rw [List.filter_cons_of_pos hf, List.find?_cons_of_pos hx]
    · rw [List.find?_cons_of_neg hx] at h
      by_cases hfx : f x = true
      · rw [List.filter_cons_of_pos hfx, List.find?_cons_of_neg hx]
        exact find_filter h hf
      · rw [List.filter_cons_of_neg hfx]
        exact find_filter h hf
theorem xget_cons_ne {lv : List (Nat × Value)} {i j : Nat} {x : Value} (h : i ≠ j) : xget ((i, x) :: lv) j = xget lv j := by
  unfold xget
  rw [List.find?_cons_of_neg (by simpa using h)]
theorem xget_set {lv : List (Nat × Value)} {ix j : Nat} {x y : Value} (hg : xget lv j = some y) (hj : j ≠ ix) (h1 : ¬ (j + 1 = ix ∧ y.category = 2)) (h2 : ¬ (x.category = 2 ∧ j = ix + 1)) : xget (xset lv ix x) j = some y := by
  have key : ∀ f : Nat × Value → Bool, f (j, y) = true → xget ((ix, x) :: lv.filter f) j = some y := by
    intro f hf
    rw [xget_cons_ne (Ne.symm hj)]
    unfold xget at hg ⊢
    cases e : lv.find? (fun q => q.1 == j) with
    | none => rw [e] at hg; cases hg
    | some q =>
      rw [e] at hg
      have e2 : (q.1 == j) = true := by simpa using List.find?_some e
      have e3 : q = (j, y) := Prod.ext (by simpa using e2) (by simpa using hg)
      subst e3
      rw [find_filter e hf]
      rfl
  unfold xset
  split
  · rename_i hc
    apply key
    have : ¬ j = ix + 1 := fun q => h2 ⟨hc, q⟩
    simp [hj, this]
    by_cases g : j + 1 = ix
    · exact Or.inr (fun w => h1 ⟨g, w⟩)
    · exact Or.inl g
  · apply key
    simp [hj]
    by_cases g : j + 1 = ix
    · exact Or.inr (fun w => h1 ⟨g, w⟩)
    · exact Or.inl g
theorem xget_self {lv : List (Nat × Value)} {ix : Nat} {x : Value} : xget (xset lv ix x) ix = some x := by
  unfold xset xget
  split <;> simp
theorem aLoc_set {ρ : Nat → Int} {α τ : Nat → Option Nat} {b : aSc} {L : List (Nat × aV)} {lv : List (Nat × Value)} {ix : Nat} {v : aV} {x : Value} (h : aLoc ρ α τ b L lv) (hv : aM ρ α τ b v x) : aLoc ρ α τ b (aset L ix v) (xset lv ix x) := by
  intro q hq
  rcases List.mem_cons.mp hq with rfl | hq
  · exact ⟨x, xget_self, hv⟩
  · obtain ⟨hq1, hq2⟩ := List.mem_filter.mp hq
    obtain ⟨y, hy, hm⟩ := h q hq1
    simp only [Bool.and_eq_true, Bool.not_eq_true', beq_eq_false_iff_ne, ne_eq, Bool.and_eq_false_imp, beq_iff_eq] at hq2
    refine ⟨y, xget_set hy hq2.1 ?_ ?_, hm⟩
    · rintro ⟨g1, g2⟩
      rw [acat_ok hm] at g2
      exact hq2.2.1 g1 g2
    · rintro ⟨g1, g2⟩
      rw [acat_ok hv] at g1
      exact hq2.2.2 g1 g2
/-! comparisons -/
def aRelI : ClassFile.Cond → Int → Int → Bool
  | .eq, x, y => decide (x = y)
  | .ne, x, y => decide (¬ x = y)
  | .lt, x, y => decide (x < y)
  | .ge, x, y => decide (y ≤ x)
  | .gt, x, y => decide (y < x)
  | .le, x, y => decide (x ≤ y)
theorem xcmp_rel (cd : ClassFile.Cond) (x y : Int32) : xcmp cd x y = aRelI cd x.toInt y.toInt := by
  cases cd <;> simp [xcmp, aRelI, Int32.lt_iff_toInt_lt, Int32.le_iff_toInt_le, ← Int32.toInt_inj]
theorem lcmp_rel (cd : ClassFile.Cond) (x y : Int64) : xcmp cd (lg_cmp x y) 0 = aRelI cd x.toInt y.toInt := by
  have e0 : (0 : Int32).toInt = 0 := by decide
  have hc : (lg_cmp x y).toInt = if y.toInt < x.toInt then 1 else if x.toInt = y.toInt then 0 else -1 := by
    unfold lg_cmp
    simp only [gt_iff_lt, Int64.lt_iff_toInt_lt, ← Int64.toInt_inj]
    split
    · decide
    · split <;> decide
  rw [xcmp_rel, e0, hc]
  have : ∀ P : Prop, [Decidable P] → ∀ Q : Prop, [Decidable Q] → (P ↔ Q) → decide P = decide Q := fun P _ Q _ h => by simp [h]
  cases cd <;> simp only [aRelI] <;> apply this <;> (split <;> try split) <;> omega
def aNeg : ClassFile.Cond → ClassFile.Cond
  | .eq => .ne
  | .ne => .eq
  | .lt => .ge
  | .ge => .lt
  | .gt => .le
  | .le => .gt
theorem aNeg_ok {cd : ClassFile.Cond} {x y : Int} (h : aRelI cd x y = false) : aRelI (aNeg cd) x y = true := by
  cases cd <;> simp [aRelI, aNeg] at h ⊢ <;> omega
def aCut (R : aRg) (v : Nat × Int) (lo hi : Int) : Option aRg :=
  if max (aG R v.1).1 (lo - v.2) ≤ min (aG R v.1).2 (hi - v.2) then (if v.1 = 0 then some R else some (R.set v.1 (max (aG R v.1).1 (lo - v.2), min (aG R v.1).2 (hi - v.2)))) else none
theorem aCut_ok {R : aRg} {ρ : Nat → Int} {v : Nat × Int} {lo hi : Int} (hR : aOkR R ρ) (h1 : lo ≤ ρ v.1 + v.2) (h2 : ρ v.1 + v.2 ≤ hi) : ∃ R_q, aCut R v lo hi = some R_q ∧ aOkR R_q ρ ∧ R_q.length = R.length := by
  have hk := hR v.1
  unfold aCut
  rw [if_pos (by omega)]
  split
  · exact ⟨R, rfl, hR, rfl⟩
  · exact ⟨_, rfl, aOkR_set hR (by omega) (by omega), by simp⟩
/-- what is known where 'a cd b_q holds; none: it doesn't -/
def aRef (R : aRg) (cd : ClassFile.Cond) (a b : Nat × Int) : Option aRg :=
  if a.1 = b.1 then (if aRelI cd a.2 b.2 = true then some R else none)
  else match cd with
  | .eq => (aCut R a ((aG R b.1).1 + b.2) ((aG R b.1).2 + b.2)).bind (fun R1 => aCut R1 b ((aG R a.1).1 + a.2) ((aG R a.1).2 + a.2))
  | .ne => if (aG R b.1).1 = (aG R b.1).2 then
        (if (aG R a.1).1 + a.2 = (aG R b.1).1 + b.2 then aCut R a ((aG R a.1).1 + a.2 + 1) ((aG R a.1).2 + a.2) else if (aG R a.1).2 + a.2 = (aG R b.1).1 + b.2 then aCut R a ((aG R a.1).1 + a.2) ((aG R a.1).2 + a.2 - 1) else some R)
      else if (aG R a.1).1 = (aG R a.1).2 then
        (if (aG R b.1).1 + b.2 = (aG R a.1).1 + a.2 then aCut R b ((aG R b.1).1 + b.2 + 1) ((aG R b.1).2 + b.2) else if (aG R b.1).2 + b.2 = (aG R a.1).1 + a.2 then aCut R b ((aG R b.1).1 + b.2) ((aG R b.1).2 + b.2 - 1) else some R)
      else some R
  | .lt => (aCut R a ((aG R a.1).1 + a.2) ((aG R b.1).2 + b.2 - 1)).bind (fun R1 => aCut R1 b ((aG R a.1).1 + a.2 + 1) ((aG R b.1).2 + b.2))
  | .ge => (aCut R a ((aG R b.1).1 + b.2) ((aG R a.1).2 + a.2)).bind (fun R1 => aCut R1 b ((aG R b.1).1 + b.2) ((aG R a.1).2 + a.2))
  | .gt => (aCut R a ((aG R b.1).1 + b.2 + 1) ((aG R a.1).2 + a.2)).bind (fun R1 => aCut R1 b ((aG R b.1).1 + b.2) ((aG R a.1).2 + a.2 - 1))
  | .le => (aCut R a ((aG R a.1).1 + a.2) ((aG R b.1).2 + b.2)).bind (fun R1 => aCut R1 b ((aG R a.1).1 + a.2) ((aG R b.1).2 + b.2))
theorem aRef_ok {R : aRg} {ρ : Nat → Int} {cd : ClassFile.Cond} {a b : Nat × Int} (hR : aOkR R ρ) (h : aRelI cd (ρ a.1 + a.2) (ρ b.1 + b.2) = true) : ∃ R_q, aRef R cd a b = some R_q ∧ aOkR R_q ρ ∧ R_q.length = R.length := by
  have ha := hR a.1
  have hb := hR b.1
  have two : ∀ (lo1 hi1 lo2 hi2 : Int), lo1 ≤ ρ a.1 + a.2 → ρ a.1 + a.2 ≤ hi1 → lo2 ≤ ρ b.1 + b.2 → ρ b.1 + b.2 ≤ hi2 → ∃ R_q, (aCut R a lo1 hi1).bind (fun R1 => aCut R1 b lo2 hi2) = some R_q ∧ aOkR R_q ρ ∧ R_q.length = R.length := by
    intro lo1 hi1 lo2 hi2 g1 g2 g3 g4
    obtain ⟨R1, e1, e2, e3⟩ := aCut_ok (v := a) hR g1 g2
    obtain ⟨R2, f1, f2, f3⟩ := aCut_ok (v := b) e2 g3 g4
    exact ⟨R2, by rw [e1]; exact f1, f2, f3.trans e3⟩
  unfold aRef
  split
  · rename_i he
    rw [he] at h
    have : aRelI cd a.2 b.2 = true := by
      cases cd <;> simp only [aRelI, decide_eq_true_eq] at h ⊢ <;> omega
    rw [if_pos this]
    exact ⟨R, rfl, hR, rfl⟩
  · cases cd <;> simp only [aRelI, decide_eq_true_eq] at h <;> dsimp only
    case eq => exact two _ _ _ _ (by omega) (by omega) (by omega) (by omega)
    case lt => exact two _ _ _ _ (by omega) (by omega) (by omega) (by omega)
    case ge => exact two _ _ _ _ (by omega) (by omega) (by omega) (by omega)
    case gt => exact two _ _ _ _ (by omega) (by omega) (by omega) (by omega)
    case le => exact two _ _ _ _ (by omega) (by omega) (by omega) (by omega)
    case ne =>
      split
      · split
        · exact aCut_ok hR (by omega) (by omega)
        · split
          · exact aCut_ok hR (by omega) (by omega)
          · exact ⟨R, rfl, hR, rfl⟩
      · split
        · split
          · exact aCut_ok hR (by omega) (by omega)
          · split
            · exact aCut_ok hR (by omega) (by omega)
            · exact ⟨R, rfl, hR, rfl⟩
        · exact ⟨R, rfl, hR, rfl⟩
def aTg (pc : Nat) (off : Int) : Option Nat := if 0 ≤ (pc : Int) + off then some ((pc : Int) + off).toNat else none
theorem aTg_ok {pc tg : Nat} {off : Int} (h : aTg pc off = some tg) : (pc : Int) + off = (tg : Int) := by
  unfold aTg at h
  split at h
  · cases h; omega
  · cases h
/-- the state with other ranges -/
def aWR (σ : aS) (S : List aV) (R : aRg) : aS := (R, σ.2.1, σ.2.2.1, S, σ.2.2.2.2)
/-- the two ways of a comparison -/
def aTwo (σ : aS) (S : List aV) (cd : ClassFile.Cond) (a b : Nat × Int) (tg pc_q : Nat) : List (Nat × aS) :=
  (match aRef σ.1 cd a b with | some R => [(tg, aWR σ S R)] | none => []) ++ (match aRef σ.1 (aNeg cd) a b with | some R => [(pc_q, aWR σ S R)] | none => [])
def as0 (σ : aS) (i : Instr) (len pc : Nat) : Option (List (Nat × aS)) :=
  if aZ σ.1 = true then
    match xop0 i with
    | some q => if q.2 = len then (aCst q.1).map (fun a => [(pc + len, (σ.1, σ.2.1, σ.2.2.1, a :: σ.2.2.2.1, σ.2.2.2.2))]) else none
    | none => none
  else none
def as1 (σ : aS) (i : Instr) (len pc : Nat) : Option (List (Nat × aS)) := match σ.2.2.2.1 with
  | a :: S => if len = 1 then (match aop1 σ.1 i a with | some q => (aPu σ S q.1 q.2).map (fun σ_q => [(pc + 1, σ_q)]) | none => none) else none
  | [] => none
def as2 (σ : aS) (i : Instr) (len pc : Nat) : Option (List (Nat × aS)) := match σ.2.2.2.1 with
  | d :: a :: S => if len = 1 then (match aop2 σ.1 i a d with | some q => (aPu σ S q.1 q.2).map (fun σ_q => [(pc + 1, σ_q)]) | none => none) else none
  | _ => none
def astk : Instr → List aV → Option (List aV)
  | .pop, a :: r => if acat a = 1 then some r else none
  | .dup, a :: r => if acat a = 1 then some (a :: a :: r) else none
  | .dup_x1, a :: b :: r => if acat a = 1 ∧ acat b = 1 then some (a :: b :: a :: r) else none
  | .dup2, a :: r => if acat a = 2 then some (a :: a :: r) else
      match r with
      | b :: r2 => if acat a = 1 ∧ acat b = 1 then some (a :: b :: a :: b :: r2) else none
      | [] => none
  | _, _ => none
theorem astk_ok {ρ : Nat → Int} {α τ : Nat → Option Nat} {b : aSc} {i : Instr} {S S_q : List aV} {st : List Value} (h : astk i S = some S_q) (hS : aStk ρ α τ b S st) : ∃ st_q, xstk i st = some st_q ∧ aStk ρ α τ b S_q st_q := by
  unfold astk at h
  split at h
  · cases st with
    | nil => exact hS.elim
    | cons x st =>
      split at h
      · rename_i hc; cases h
        exact ⟨st, by simp only [xstk]; rw [if_pos (by rw [acat_ok hS.1]; exact hc)], hS.2⟩
      · cases h
  · cases st with
    | nil => exact hS.elim
    | cons x st =>
      split at h
      · rename_i hc; cases h
        exact ⟨x :: x :: st, by simp only [xstk]; rw [if_pos (by rw [acat_ok hS.1]; exact hc)], hS.1, hS.1, hS.2⟩
      · cases h
  · cases st with
    | nil => exact hS.elim
    | cons x st =>
      cases st with
      | nil => exact hS.2.elim
      | cons y st =>
        split at h
        · rename_i hc; cases h
          exact ⟨x :: y :: x :: st, by simp only [xstk]; rw [if_pos (by rw [acat_ok hS.1, acat_ok hS.2.1]; exact hc)], hS.1, hS.2.1, hS.1, hS.2.2⟩
        · cases h
  · cases st with
    | nil => exact hS.elim
    | cons x st =>
      split at h
      · rename_i hc; cases h
        exact ⟨x :: x :: st, by simp only [xstk]; rw [if_pos (by rw [acat_ok hS.1]; exact hc)], hS.1, hS.1, hS.2⟩
      · rename_i hn
        split at h
        · cases st with
          | nil => exact hS.2.elim
          | cons y st =>
            split at h
            · rename_i hc; cases h
              refine ⟨x :: y :: x :: y :: st, ?_, hS.1, hS.2.1, hS.1, hS.2.1, hS.2.2⟩
              simp only [xstk]
              rw [if_neg (by rw [acat_ok hS.1]; exact hn), if_pos (by rw [acat_ok hS.1, acat_ok hS.2.1]; exact hc)]
            · cases h
        · cases h
  · cases h
def asS (σ : aS) (i : Instr) (len pc : Nat) : Option (List (Nat × aS)) := if len = 1 then (astk i σ.2.2.2.1).map (fun S => [(pc + 1, (σ.1, σ.2.1, σ.2.2.1, S, σ.2.2.2.2))]) else none
def asL (σ : aS) (i : Instr) (len pc : Nat) : Option (List (Nat × aS)) := match xldi i with
  | some q => (match aget σ.2.2.1 q.1 with
    | some v => if asort v = q.2.1 ∧ q.2.2 = len then some [(pc + len, (σ.1, σ.2.1, σ.2.2.1, v :: σ.2.2.2.1, σ.2.2.2.2))] else none
    | none => none)
  | none => none
def asW (nL : Nat) (σ : aS) (i : Instr) (len pc : Nat) : Option (List (Nat × aS)) := match xsti i with
  | some q => (match σ.2.2.2.1 with
    | v :: S => if asort v = q.2.1 ∧ q.2.2 = len ∧ q.1 + acat v ≤ nL then some [(pc + len, (σ.1, σ.2.1, aset σ.2.2.1 q.1 v, S, σ.2.2.2.2))] else none
    | [] => none)
  | none => none
/-- iinc, kept in range -/
def asI (nL : Nat) (σ : aS) (i : Instr) (len pc : Nat) : Option (List (Nat × aS)) := match i with
  | .iinc ix z => (match aget σ.2.2.1 ix with
    | some v => if v.1 = 0 ∧ len = 3 ∧ ix < nL ∧ -2147483648 ≤ z ∧ z ≤ 2147483647 ∧ aFit 0 ((aG σ.1 v.2.1).1 + v.2.2 + z) ((aG σ.1 v.2.1).2 + v.2.2 + z) = true then some [(pc + 3, (σ.1, σ.2.1, aset σ.2.2.1 ix (0, v.2.1, v.2.2 + z), σ.2.2.2.1, σ.2.2.2.2))] else none
    | none => none)
  | _ => none
/-- a nullable reference becomes null, or one that isn't -/
def aSb (k : Nat) (nul : Bool) (v : aV) : aV := if v.1 = 5 ∧ v.2.1 = k then (if nul = true then (3, 0, 0) else (4, v.2)) else v
def aSbS (σ : aS) (S : List aV) (k : Nat) (nul : Bool) : aS := (σ.1, σ.2.1, σ.2.2.1.map (fun q => (q.1, aSb k nul q.2)), S.map (aSb k nul), σ.2.2.2.2.1.map (fun o => (o.1, o.2.1, o.2.2.map (aSb k nul))), σ.2.2.2.2.2)
/-- where a null test goes: tn if it is null, tr if not -/
def aNul (σ : aS) (tn tr : Nat) : Option (List (Nat × aS)) := match σ.2.2.2.1 with
  | v :: S => if v.1 = 3 then some [(tn, (σ.1, σ.2.1, σ.2.2.1, S, σ.2.2.2.2))] else if v.1 = 2 ∨ v.1 = 4 ∨ v.1 = 7 then some [(tr, (σ.1, σ.2.1, σ.2.2.1, S, σ.2.2.2.2))]
      else if v.1 = 5 then some [(tn, aSbS σ S v.2.1 true), (tr, aSbS σ S v.2.1 false)] else none
  | [] => none
def asB (σ : aS) (i : Instr) (len pc : Nat) : Option (List (Nat × aS)) := match i with
  | .goto off => (match aTg pc off with | some tg => if len = 3 then some [(tg, σ)] else none | none => none)
  | .ifCond cd off => (match σ.2.2.2.1 with
    | a :: S => (match aTg pc off with | some tg => if a.1 = 0 ∧ len = 3 ∧ aZ σ.1 = true then some (aTwo σ S cd a.2 (0, 0) tg (pc + 3)) else none | none => none)
    | [] => none)
  | .if_icmp cd off => (match σ.2.2.2.1 with
    | d :: a :: S => (match aTg pc off with | some tg => if a.1 = 0 ∧ d.1 = 0 ∧ len = 3 then some (aTwo σ S cd a.2 d.2 tg (pc + 3)) else none | none => none)
    | _ => none)
  | .ifnull off => (match aTg pc off with | some tg => if len = 3 then aNul σ tg (pc + 3) else none | none => none)
  | .ifnonnull off => (match aTg pc off with | some tg => if len = 3 then aNul σ (pc + 3) tg else none | none => none)
  | _ => none
/-- a comparison of longs with the branch behind it -/
def asC (σ : aS) (nx : Option (Instr × Nat)) (i : Instr) (len pc : Nat) : Option (List (Nat × aS)) := match i with
  | .lcmp => (match σ.2.2.2.1 with
    | d :: a :: S => (match nx with
      | some (.ifCond cd off, len2) => (match aTg (pc + 1) off with | some tg => if a.1 = 1 ∧ d.1 = 1 ∧ len = 1 ∧ len2 = 3 then some (aTwo σ S cd a.2 d.2 tg (pc + 4)) else none | none => none)
      | _ => none)
    | _ => none)
  | _ => none
section XQ
variable {p : Program} {l : Launch} {e : Env} {R0 : Room} {s : State} {m : MethodId} {args : Array Value} {below : List Frame} {meth : Method} {c : Code} {Q : State → Prop}
variable {cc : ByteArray} {nL : Nat} {Ts : List Cond} {own : String} {D : va_G} {dA : Nat → ClassId} {cl : List vw_C} {tA : List (Nat × FieldType)} {tyf : Nat → Nat → FieldType} {B : Nat}
variable {kd : List aKd} {b : aSc} {P : Nat → Prop} {h0 : xH} {ρ : Nat → Int} {α τ : Nat → Option Nat} {σ : aS} {pc len : Nat} {lv : List (Nat × Value)} {st : List Value} {h : xH} {i : Instr} {l1 : List (Nat × aS)}
theorem aTwo_in {S : List aV} {cd : ClassFile.Cond} {a d : Nat × Int} {tg pc_q : Nat} {cdx : ClassFile.Cond} {R : aRg} {t1 : Nat} (h1 : (cdx = cd ∧ t1 = tg) ∨ (cdx = aNeg cd ∧ t1 = pc_q)) (hr : aRef σ.1 cdx a d = some R) : (t1, aWR σ S R) ∈ aTwo σ S cd a d tg pc_q := by
  unfold aTwo
  rcases h1 with ⟨rfl, rfl⟩ | ⟨rfl, rfl⟩
  · rw [hr]; simp
  · rw [hr]; simp
theorem as0_ok (C : xCx p s m args c cc nL Ts own D dA cl tA tyf B) (hA : aSx kd B b P h0 ρ α τ σ lv st h) (hdg : decode cc pc = .ok (i, len)) (hs : as0 σ i len pc = some l1) (kk : (∀ q ∈ l1, ∀ (ρ_q : Nat → Int) (α_q τ_q : Nat → Option Nat) (lv_q : List (Nat × Value)) (st_q : List Value) (h_q : xH), aSame σ.1.length σ.2.1 ρ ρ_q α α_q → aSub τ τ_q → aSx kd B b P h0 ρ_q α_q τ_q q.2 lv_q st_q h_q → xSafe p l e R0 s m args below meth c nL D dA cl tA B Q q.1 lv_q st_q h_q q.2.2.2.2.2.2.1 q.2.2.2.2.2.2.2)) : xSafe p l e R0 s m args below meth c nL D dA cl tA B Q pc lv st h σ.2.2.2.2.2.1 σ.2.2.2.2.2.2 := by
  unfold as0 at hs
  split at hs
  · rename_i hz
    split at hs
    · rename_i q hq
      split at hs
      · rename_i hl
        cases ha : aCst q.1 with
        | none => rw [ha] at hs; cases hs
        | some a =>
          rw [ha] at hs
          cases hs
          subst hl
          refine xs_op0 C hq hdg (kk _ List.mem_cons_self ρ α τ lv (q.1 :: st) h aSame_rf aSub_rf ⟨⟨hA.1.1, hA.1.2.1, ⟨?_, hA.1.2.2.1⟩, hA.1.2.2.2⟩, hA.2⟩)
          have h00 := aZ_ok hz hA.1.1
          unfold aCst at ha
          split at ha <;> cases ha
          · rename_i z he; rw [he]; exact ⟨z, rfl, by show z.toInt = ρ 0 + z.toInt; omega⟩
          · rename_i z he; rw [he]; exact ⟨z, rfl, by show z.toInt = ρ 0 + z.toInt; omega⟩
          · rename_i he; exact he
      · cases hs
    · cases hs
  · cases hs
theorem aStk_cons {ρ : Nat → Int} {α τ : Nat → Option Nat} {b : aSc} {v : aV} {S : List aV} {st : List Value} (h : aStk ρ α τ b (v :: S) st) : ∃ x st_q, st = x :: st_q ∧ aM ρ α τ b v x ∧ aStk ρ α τ b S st_q := by
  cases st with
  | nil => exact h.elim
  | cons x st => exact ⟨x, st, rfl, h.1, h.2⟩
theorem as1_ok (C : xCx p s m args c cc nL Ts own D dA cl tA tyf B) (hA : aSx kd B b P h0 ρ α τ σ lv st h) (hdg : decode cc pc = .ok (i, len)) (hs : as1 σ i len pc = some l1) (kk : (∀ q ∈ l1, ∀ (ρ_q : Nat → Int) (α_q τ_q : Nat → Option Nat) (lv_q : List (Nat × Value)) (st_q : List Value) (h_q : xH), aSame σ.1.length σ.2.1 ρ ρ_q α α_q → aSub τ τ_q → aSx kd B b P h0 ρ_q α_q τ_q q.2 lv_q st_q h_q → xSafe p l e R0 s m args below meth c nL D dA cl tA B Q q.1 lv_q st_q h_q q.2.2.2.2.2.2.1 q.2.2.2.2.2.2.2)) : xSafe p l e R0 s m args below meth c nL D dA cl tA B Q pc lv st h σ.2.2.2.2.2.1 σ.2.2.2.2.2.2 := by
  unfold as1 at hs
  split at hs
  · rename_i a S hS
    split at hs
    · rename_i hl
      subst hl
      split at hs
      · rename_i q hq
        cases hp : aPu σ S q.1 q.2 with
        | none => rw [hp] at hs; cases hs
        | some σ_q =>
          rw [hp] at hs
          cases hs
          have h3 := hA.1.2.2.1
          rw [hS] at h3
          obtain ⟨x, st_q, rfl, hx, h4⟩ := aStk_cons h3
          obtain ⟨y, hy, hv⟩ := aop1_ok hA.1.1 (show aop1 σ.1 i a = some (q.1, q.2) from hq) hx
          obtain ⟨ρ_q, g1, g2, g3⟩ := aPu_ok (σ := σ) (S := S) (st := st_q) (h := h) ⟨⟨hA.1.1, hA.1.2.1, h4, hA.1.2.2.2⟩, hA.2⟩ hp hv
          have := kk _ List.mem_cons_self ρ_q α τ lv (y :: st_q) h g1 aSub_rf g2
          rw [g3] at this
          exact xs_op1 C hy hdg this
      · cases hs
    · cases hs
  · cases hs
theorem as2_ok (C : xCx p s m args c cc nL Ts own D dA cl tA tyf B) (hA : aSx kd B b P h0 ρ α τ σ lv st h) (hdg : decode cc pc = .ok (i, len)) (hs : as2 σ i len pc = some l1) (kk : (∀ q ∈ l1, ∀ (ρ_q : Nat → Int) (α_q τ_q : Nat → Option Nat) (lv_q : List (Nat × Value)) (st_q : List Value) (h_q : xH), aSame σ.1.length σ.2.1 ρ ρ_q α α_q → aSub τ τ_q → aSx kd B b P h0 ρ_q α_q τ_q q.2 lv_q st_q h_q → xSafe p l e R0 s m args below meth c nL D dA cl tA B Q q.1 lv_q st_q h_q q.2.2.2.2.2.2.1 q.2.2.2.2.2.2.2)) : xSafe p l e R0 s m args below meth c nL D dA cl tA B Q pc lv st h σ.2.2.2.2.2.1 σ.2.2.2.2.2.2 := by
  unfold as2 at hs
  split at hs
  · rename_i d a S hS
    split at hs
    · rename_i hl
      subst hl
      split at hs
      · rename_i q hq
        cases hp : aPu σ S q.1 q.2 with
        | none => rw [hp] at hs; cases hs
        | some σ_q =>
          rw [hp] at hs
          cases hs
          have h3 := hA.1.2.2.1
          rw [hS] at h3
          obtain ⟨y, st_q, rfl, hy, h4⟩ := aStk_cons h3
          obtain ⟨x, st_q, rfl, hx, h5⟩ := aStk_cons h4
          obtain ⟨v, hv1, hv⟩ := aop2_ok hA.1.1 (show aop2 σ.1 i a d = some (q.1, q.2) from hq) hx hy
          obtain ⟨ρ_q, g1, g2, g3⟩ := aPu_ok (σ := σ) (S := S) (st := st_q) (h := h) ⟨⟨hA.1.1, hA.1.2.1, h5, hA.1.2.2.2⟩, hA.2⟩ hp hv
          have := kk _ List.mem_cons_self ρ_q α τ lv (v :: st_q) h g1 aSub_rf g2
          rw [g3] at this
          exact xs_op2 C hv1 hdg this
      · cases hs
    · cases hs
  · cases hs
theorem asS_ok (C : xCx p s m args c cc nL Ts own D dA cl tA tyf B) (hA : aSx kd B b P h0 ρ α τ σ lv st h) (hdg : decode cc pc = .ok (i, len)) (hs : asS σ i len pc = some l1) (kk : (∀ q ∈ l1, ∀ (ρ_q : Nat → Int) (α_q τ_q : Nat → Option Nat) (lv_q : List (Nat × Value)) (st_q : List Value) (h_q : xH), aSame σ.1.length σ.2.1 ρ ρ_q α α_q → aSub τ τ_q → aSx kd B b P h0 ρ_q α_q τ_q q.2 lv_q st_q h_q → xSafe p l e R0 s m args below meth c nL D dA cl tA B Q q.1 lv_q st_q h_q q.2.2.2.2.2.2.1 q.2.2.2.2.2.2.2)) : xSafe p l e R0 s m args below meth c nL D dA cl tA B Q pc lv st h σ.2.2.2.2.2.1 σ.2.2.2.2.2.2 := by
  unfold asS at hs
  split at hs
  · rename_i hl
    subst hl
    cases ha : astk i σ.2.2.2.1 with
    | none => rw [ha] at hs; cases hs
    | some S =>
      rw [ha] at hs
      cases hs
      obtain ⟨st_q, g1, g2⟩ := astk_ok ha hA.1.2.2.1
      exact xs_stk C g1 hdg (kk _ List.mem_cons_self ρ α τ lv st_q h aSame_rf aSub_rf ⟨⟨hA.1.1, hA.1.2.1, g2, hA.1.2.2.2⟩, hA.2⟩)
  · cases hs
theorem asL_ok (C : xCx p s m args c cc nL Ts own D dA cl tA tyf B) (hA : aSx kd B b P h0 ρ α τ σ lv st h) (hdg : decode cc pc = .ok (i, len)) (hs : asL σ i len pc = some l1) (kk : (∀ q ∈ l1, ∀ (ρ_q : Nat → Int) (α_q τ_q : Nat → Option Nat) (lv_q : List (Nat × Value)) (st_q : List Value) (h_q : xH), aSame σ.1.length σ.2.1 ρ ρ_q α α_q → aSub τ τ_q → aSx kd B b P h0 ρ_q α_q τ_q q.2 lv_q st_q h_q → xSafe p l e R0 s m args below meth c nL D dA cl tA B Q q.1 lv_q st_q h_q q.2.2.2.2.2.2.1 q.2.2.2.2.2.2.2)) : xSafe p l e R0 s m args below meth c nL D dA cl tA B Q pc lv st h σ.2.2.2.2.2.1 σ.2.2.2.2.2.2 := by
  unfold asL at hs
  split at hs
  · rename_i q hq
    split at hs
    · rename_i v hv
      split at hs
      · rename_i hc
        cases hs
        obtain ⟨x, hx, hm⟩ := hA.1.2.1 _ (aget_mem hv)
        obtain ⟨hc1, hc2⟩ := hc
        subst hc2
        exact xs_ld C (show xldi i = some (q.1, q.2.1, q.2.2) from hq) hx (by rw [asort_ok hm]; exact hc1) hdg (kk _ List.mem_cons_self ρ α τ lv (x :: st) h aSame_rf aSub_rf ⟨⟨hA.1.1, hA.1.2.1, ⟨hm, hA.1.2.2.1⟩, hA.1.2.2.2⟩, hA.2⟩)
      · cases hs
    · cases hs
  · cases hs
theorem asW_ok (C : xCx p s m args c cc nL Ts own D dA cl tA tyf B) (hA : aSx kd B b P h0 ρ α τ σ lv st h) (hdg : decode cc pc = .ok (i, len)) (hs : asW nL σ i len pc = some l1) (kk : (∀ q ∈ l1, ∀ (ρ_q : Nat → Int) (α_q τ_q : Nat → Option Nat) (lv_q : List (Nat × Value)) (st_q : List Value) (h_q : xH), aSame σ.1.length σ.2.1 ρ ρ_q α α_q → aSub τ τ_q → aSx kd B b P h0 ρ_q α_q τ_q q.2 lv_q st_q h_q → xSafe p l e R0 s m args below meth c nL D dA cl tA B Q q.1 lv_q st_q h_q q.2.2.2.2.2.2.1 q.2.2.2.2.2.2.2)) : xSafe p l e R0 s m args below meth c nL D dA cl tA B Q pc lv st h σ.2.2.2.2.2.1 σ.2.2.2.2.2.2 := by
  unfold asW at hs
  split at hs
  · rename_i q hq
    split at hs
    · rename_i v S hS
      split at hs
      · rename_i hc
        cases hs
        have h3 := hA.1.2.2.1
        rw [hS] at h3
        obtain ⟨x, st_q, rfl, hx, h3⟩ := aStk_cons h3
        obtain ⟨hc1, hc2, hc3⟩ := hc
        subst hc2
        exact xs_st C (show xsti i = some (q.1, q.2.1, q.2.2) from hq) (by rw [asort_ok hx]; exact hc1) (by rw [acat_ok hx]; exact hc3) hdg (kk _ List.mem_cons_self ρ α τ (xset lv q.1 x) st_q h aSame_rf aSub_rf ⟨⟨hA.1.1, aLoc_set hA.1.2.1 hx, h3, hA.1.2.2.2⟩, hA.2⟩)
      · cases hs
    · cases hs
  · cases hs
theorem asI_ok (C : xCx p s m args c cc nL Ts own D dA cl tA tyf B) (hA : aSx kd B b P h0 ρ α τ σ lv st h) (hdg : decode cc pc = .ok (i, len)) (hs : asI nL σ i len pc = some l1) (kk : (∀ q ∈ l1, ∀ (ρ_q : Nat → Int) (α_q τ_q : Nat → Option Nat) (lv_q : List (Nat × Value)) (st_q : List Value) (h_q : xH), aSame σ.1.length σ.2.1 ρ ρ_q α α_q → aSub τ τ_q → aSx kd B b P h0 ρ_q α_q τ_q q.2 lv_q st_q h_q → xSafe p l e R0 s m args below meth c nL D dA cl tA B Q q.1 lv_q st_q h_q q.2.2.2.2.2.2.1 q.2.2.2.2.2.2.2)) : xSafe p l e R0 s m args below meth c nL D dA cl tA B Q pc lv st h σ.2.2.2.2.2.1 σ.2.2.2.2.2.2 := by
  unfold asI at hs
  split at hs
  · rename_i ix z
    split at hs
    · rename_i v hv
      split at hs
      · rename_i hc
        cases hs
        obtain ⟨hc1, hc2, hc3, hc4, hc5, hc6⟩ := hc
        subst hc2
        obtain ⟨x, hx, hm0⟩ := hA.1.2.1 _ (aget_mem hv)
        have hm : aM ρ α τ b v x := hm0
        obtain ⟨w, rfl, hw⟩ := aM_int hm hc1
        have hk := hA.1.1 v.2.1
        have hz : (Int32.ofInt z).toInt = z := by
          rw [Int32.toInt_ofInt]
          exact aB32 hc4 hc5
        simp only [aFit, if_true, Bool.and_eq_true, decide_eq_true_eq] at hc6
        have hm2 : aM ρ α τ b (0, v.2.1, v.2.2 + z) (.int (w + Int32.ofInt z)) := ⟨_, rfl, by
          show _ = ρ v.2.1 + (v.2.2 + z)
          rw [Int32.toInt_add, hz, aB32 (by omega) (by omega), hw]
          omega⟩
        exact xs_iinc C hx hc3 hdg (kk _ List.mem_cons_self ρ α τ _ st h aSame_rf aSub_rf ⟨⟨hA.1.1, aLoc_set hA.1.2.1 hm2, hA.1.2.2.1, hA.1.2.2.2⟩, hA.2⟩)
      · cases hs
    · cases hs
  · cases hs
theorem aSb_ok {k : Nat} {nul : Bool} {v : aV} {x : Value} (hn : if nul = true then α k = none else ∃ a, α k = some a) (h : aM ρ α τ b v x) : aM ρ α τ b (aSb k nul v) x := by
  unfold aSb
  split
  · rename_i hc
    obtain ⟨t, k1, o⟩ := v
    dsimp only at hc
    obtain ⟨rfl, rfl⟩ := hc
    have h5 : (x = .null ∧ α k1 = none) ∨ ∃ a : Nat, x = .ref a ∧ α k1 = some a ∧ τ a = some o.toNat := h
    split
    · rename_i hu
      rw [if_pos hu] at hn
      rcases h5 with ⟨h5, -⟩ | ⟨a, h5, h6, -⟩
      · exact h5
      · rw [hn] at h6; cases h6
    · rename_i hu
      rw [if_neg hu] at hn
      rcases h5 with ⟨h5, h6⟩ | h5
      · obtain ⟨a, ha⟩ := hn
        rw [ha] at h6; cases h6
      · exact h5
  · exact h
theorem aSbS_ok {S : List aV} {k : Nat} {nul : Bool} (hn : if nul = true then α k = none else ∃ a, α k = some a) (hA : aSx kd B b P h0 ρ α τ (σ.1, σ.2.1, σ.2.2.1, S, σ.2.2.2.2) lv st h) : aSx kd B b P h0 ρ α τ (aSbS σ S k nul) lv st h := by
  obtain ⟨⟨g1, g2, g3, g4, g5⟩, g6, g7, g8⟩ := hA
  refine ⟨⟨g1, ?_, ?_, ⟨?_, ?_⟩, g5⟩, g6, ?_, g8⟩
  · intro q hq
    obtain ⟨q_q, hq_q, rfl⟩ := List.mem_map.mp hq
    obtain ⟨x, h1, h2⟩ := g2 q_q hq_q
    exact ⟨x, h1, aSb_ok hn h2⟩
  · have : ∀ (S : List aV) (st : List Value), aStk ρ α τ b S st → aStk ρ α τ b (S.map (aSb k nul)) st := by
      intro S
      induction S with
      | nil => intro st h1; exact h1
      | cons v S ih =>
        intro st h1
        obtain ⟨x, st_q, rfl, hx, h2⟩ := aStk_cons h1
        exact ⟨aSb_ok hn hx, ih st_q h2⟩
    exact this S st g3
  · intro o ho
    obtain ⟨o_q, ho_q, rfl⟩ := List.mem_map.mp ho
    obtain ⟨a, V, e1, e2, e3, e4, e5⟩ := g4.1 o_q ho_q
    refine ⟨a, V, e1, e2, e3, by simpa using e4, fun j v hv => ?_⟩
    rw [List.getElem?_map] at hv
    cases hj : o_q.2.2[j]? with
    | none => rw [hj] at hv; cases hv
    | some v_q =>
      rw [hj] at hv
      cases hv
      exact aSb_ok hn (e5 j v_q hj)
  · show List.Pairwise _ (List.map _ _)
    rw [List.pairwise_map]
    exact g4.2
  · intro o ho a ha
    obtain ⟨o_q, ho_q, rfl⟩ := List.mem_map.mp ho
    exact g7 o_q ho_q a ha
theorem aNul_ok {tn tr : Nat} (hA : aSx kd B b P h0 ρ α τ σ lv st h) (hs : aNul σ tn tr = some l1) (kk : (∀ q ∈ l1, ∀ (ρ_q : Nat → Int) (α_q τ_q : Nat → Option Nat) (lv_q : List (Nat × Value)) (st_q : List Value) (h_q : xH), aSame σ.1.length σ.2.1 ρ ρ_q α α_q → aSub τ τ_q → aSx kd B b P h0 ρ_q α_q τ_q q.2 lv_q st_q h_q → xSafe p l e R0 s m args below meth c nL D dA cl tA B Q q.1 lv_q st_q h_q q.2.2.2.2.2.2.1 q.2.2.2.2.2.2.2)) : ∃ v st_q, st = v :: st_q ∧ xsort v = 2 ∧ (v = .null → xSafe p l e R0 s m args below meth c nL D dA cl tA B Q tn lv st_q h σ.2.2.2.2.2.1 σ.2.2.2.2.2.2) ∧ (¬ v = .null → xSafe p l e R0 s m args below meth c nL D dA cl tA B Q tr lv st_q h σ.2.2.2.2.2.1 σ.2.2.2.2.2.2) := by
  unfold aNul at hs
  split at hs
  · rename_i v S hS
    have h3 := hA.1.2.2.1
    rw [hS] at h3
    obtain ⟨x, st_q, rfl, hx, h3⟩ := aStk_cons h3
    have hA_q : aSx kd B b P h0 ρ α τ (σ.1, σ.2.1, σ.2.2.1, S, σ.2.2.2.2) lv st_q h := ⟨⟨hA.1.1, hA.1.2.1, h3, hA.1.2.2.2⟩, hA.2⟩
    have hso := asort_ok hx
    obtain ⟨t, k1, o⟩ := v
    refine ⟨x, st_q, rfl, ?_, ?_⟩
    · rw [hso]
      unfold asort
      dsimp only at hs ⊢
      split at hs
      · rename_i h3; rw [h3]; rfl
      · split at hs
        · rename_i h3
          rcases h3 with h3 | h3 | h3 <;> rw [h3] <;> rfl
        · split at hs
          · rename_i h3; rw [h3]; rfl
          · cases hs
    · dsimp only at hs
      split at hs
      · rename_i h3
        subst h3
        cases hs
        have hn : x = .null := hx
        exact ⟨fun _ => kk _ List.mem_cons_self ρ α τ lv st_q h aSame_rf aSub_rf hA_q, fun q => absurd hn q⟩
      · split at hs
        · rename_i h3
          cases hs
          have hn : ¬ x = .null := by
            rcases h3 with rfl | rfl | rfl
            · obtain ⟨a, h4, -⟩ := (show ∃ a : Nat, x = .ref a ∧ α k1 = some a from hx)
              rw [h4]; intro q; cases q
            · obtain ⟨a, h4, -⟩ := (show ∃ a : Nat, x = .ref a ∧ α k1 = some a ∧ τ a = some o.toNat from hx)
              rw [h4]; intro q; cases q
            · have h4 : x = .ref b.1 := (show x = .ref b.1 ∧ ρ k1 = (b.2.1 : Int) ∧ ∀ j, j < 6 → ρ (k1 + 1 + j) = b.2.2 j from hx).1
              rw [h4]; intro q; cases q
          exact ⟨fun q => absurd q hn, fun _ => kk _ List.mem_cons_self ρ α τ lv st_q h aSame_rf aSub_rf hA_q⟩
        · split at hs
          · rename_i h3
            subst h3
            cases hs
            have h5 : (x = .null ∧ α k1 = none) ∨ ∃ a : Nat, x = .ref a ∧ α k1 = some a ∧ τ a = some o.toNat := hx
            refine ⟨fun q => ?_, fun q => ?_⟩
            · rcases h5 with ⟨-, h6⟩ | ⟨a, h6, -⟩
              · exact kk _ List.mem_cons_self ρ α τ lv st_q h aSame_rf aSub_rf (aSbS_ok (by rw [if_pos rfl]; exact h6) hA_q)
              · rw [h6] at q; cases q
            · rcases h5 with ⟨h6, -⟩ | ⟨a, -, h6, -⟩
              · exact absurd h6 q
              · exact kk _ (List.mem_cons_of_mem _ List.mem_cons_self) ρ α τ lv st_q h aSame_rf aSub_rf (aSbS_ok (by rw [if_neg (by decide)]; exact ⟨a, h6⟩) hA_q)
          · cases hs
  · cases hs
theorem asB_ok (C : xCx p s m args c cc nL Ts own D dA cl tA tyf B) (hA : aSx kd B b P h0 ρ α τ σ lv st h) (hdg : decode cc pc = .ok (i, len)) (hs : asB σ i len pc = some l1) (kk : (∀ q ∈ l1, ∀ (ρ_q : Nat → Int) (α_q τ_q : Nat → Option Nat) (lv_q : List (Nat × Value)) (st_q : List Value) (h_q : xH), aSame σ.1.length σ.2.1 ρ ρ_q α α_q → aSub τ τ_q → aSx kd B b P h0 ρ_q α_q τ_q q.2 lv_q st_q h_q → xSafe p l e R0 s m args below meth c nL D dA cl tA B Q q.1 lv_q st_q h_q q.2.2.2.2.2.2.1 q.2.2.2.2.2.2.2)) : xSafe p l e R0 s m args below meth c nL D dA cl tA B Q pc lv st h σ.2.2.2.2.2.1 σ.2.2.2.2.2.2 := by
  have wr : ∀ {S : List aV} {st_q : List Value} {R_q : aRg}, aStk ρ α τ b S st_q → aOkR R_q ρ → aSx kd B b P h0 ρ α τ (aWR σ S R_q) lv st_q h := fun g1 g2 => ⟨⟨g2, hA.1.2.1, g1, hA.1.2.2.2⟩, hA.2⟩
  unfold asB at hs
  split at hs
  · split at hs
    · rename_i tg htg
      split at hs
      · rename_i hl
        subst hl
        cases hs
        exact xs_goto C (aTg_ok htg) hdg (kk _ List.mem_cons_self ρ α τ lv st h aSame_rf aSub_rf hA)
      · cases hs
    · cases hs
  · rename_i cd off
    split at hs
    · rename_i a S hS
      split at hs
      · rename_i tg htg
        split at hs
        · rename_i hc
          obtain ⟨hc1, hc2, hc3⟩ := hc
          subst hc2
          cases hs
          have h3 := hA.1.2.2.1
          rw [hS] at h3
          obtain ⟨x, st_q, rfl, hx, h4⟩ := aStk_cons h3
          obtain ⟨z, rfl, hz⟩ := aM_int hx hc1
          have h00 := aZ_ok hc3 hA.1.1
          have e0 : (0 : Int32).toInt = ρ 0 + 0 := by rw [h00]; decide
          refine xs_if C (aTg_ok htg) hdg (fun hc => ?_) (fun hc => ?_)
          · rw [xcmp_rel, hz, e0] at hc
            obtain ⟨R_q, r1, r2, r3⟩ := aRef_ok (a := a.2) (b := (0, 0)) hA.1.1 hc
            exact kk _ (aTwo_in (Or.inl ⟨rfl, rfl⟩) r1) ρ α τ lv st_q h aSame_rf aSub_rf (wr h4 r2)
          · rw [xcmp_rel, hz, e0] at hc
            obtain ⟨R_q, r1, r2, r3⟩ := aRef_ok (a := a.2) (b := (0, 0)) hA.1.1 (aNeg_ok hc)
            exact kk _ (aTwo_in (Or.inr ⟨rfl, rfl⟩) r1) ρ α τ lv st_q h aSame_rf aSub_rf (wr h4 r2)
        · cases hs
      · cases hs
    · cases hs
  · rename_i cd off
    split at hs
    · rename_i d a S hS
      split at hs
      · rename_i tg htg
        split at hs
        · rename_i hc
          obtain ⟨hc1, hc2, hc3⟩ := hc
          subst hc3
          cases hs
          have h3 := hA.1.2.2.1
          rw [hS] at h3
          obtain ⟨y, st_q, rfl, hy, h4⟩ := aStk_cons h3
          obtain ⟨x, st_q, rfl, hx, h5⟩ := aStk_cons h4
          obtain ⟨z, rfl, hz⟩ := aM_int hx hc1
          obtain ⟨w, rfl, hw⟩ := aM_int hy hc2
          refine xs_icmp C (aTg_ok htg) hdg (fun hc => ?_) (fun hc => ?_)
          · rw [xcmp_rel, hz, hw] at hc
            obtain ⟨R_q, r1, r2, r3⟩ := aRef_ok (a := a.2) (b := d.2) hA.1.1 hc
            exact kk _ (aTwo_in (Or.inl ⟨rfl, rfl⟩) r1) ρ α τ lv st_q h aSame_rf aSub_rf (wr h5 r2)
          · rw [xcmp_rel, hz, hw] at hc
            obtain ⟨R_q, r1, r2, r3⟩ := aRef_ok (a := a.2) (b := d.2) hA.1.1 (aNeg_ok hc)
            exact kk _ (aTwo_in (Or.inr ⟨rfl, rfl⟩) r1) ρ α τ lv st_q h aSame_rf aSub_rf (wr h5 r2)
        · cases hs
      · cases hs
    · cases hs
  · split at hs
    · rename_i tg htg
      split at hs
      · rename_i hl
        subst hl
        obtain ⟨v, st_q, rfl, h1, h2, h3⟩ := aNul_ok hA hs kk
        exact xs_null C h1 (aTg_ok htg) hdg h2 h3
      · cases hs
    · cases hs
  · split at hs
    · rename_i tg htg
      split at hs
      · rename_i hl
        subst hl
        obtain ⟨v, st_q, rfl, h1, h2, h3⟩ := aNul_ok hA hs kk
        exact xs_nonnull C h1 (aTg_ok htg) hdg h3 h2
      · cases hs
    · cases hs
  · cases hs
theorem asC_ok (C : xCx p s m args c cc nL Ts own D dA cl tA tyf B) (hA : aSx kd B b P h0 ρ α τ σ lv st h) {nx : Option (Instr × Nat)} (hnx : ∀ q, nx = some q → decode cc (pc + 1) = .ok (q.1, q.2)) (hdg : decode cc pc = .ok (i, len)) (hs : asC σ nx i len pc = some l1) (kk : (∀ q ∈ l1, ∀ (ρ_q : Nat → Int) (α_q τ_q : Nat → Option Nat) (lv_q : List (Nat × Value)) (st_q : List Value) (h_q : xH), aSame σ.1.length σ.2.1 ρ ρ_q α α_q → aSub τ τ_q → aSx kd B b P h0 ρ_q α_q τ_q q.2 lv_q st_q h_q → xSafe p l e R0 s m args below meth c nL D dA cl tA B Q q.1 lv_q st_q h_q q.2.2.2.2.2.2.1 q.2.2.2.2.2.2.2)) : xSafe p l e R0 s m args below meth c nL D dA cl tA B Q pc lv st h σ.2.2.2.2.2.1 σ.2.2.2.2.2.2 := by
  have wr : ∀ {S : List aV} {st_q : List Value} {R_q : aRg}, aStk ρ α τ b S st_q → aOkR R_q ρ → aSx kd B b P h0 ρ α τ (aWR σ S R_q) lv st_q h := fun g1 g2 => ⟨⟨g2, hA.1.2.1, g1, hA.1.2.2.2⟩, hA.2⟩
  unfold asC at hs
  split at hs
  · split at hs
    · rename_i d a S hS
      split at hs
      · rename_i cd off len2
        split at hs
        · rename_i tg htg
          split at hs
          · rename_i hc
            obtain ⟨hc1, hc2, hc3, hc4⟩ := hc
            subst hc3
            subst hc4
            cases hs
            have hd2 : decode cc (pc + 1) = .ok (.ifCond cd off, 3) := hnx _ rfl
            have h3 := hA.1.2.2.1
            rw [hS] at h3
            obtain ⟨y, st_q, rfl, hy, h4⟩ := aStk_cons h3
            obtain ⟨x, st_q, rfl, hx, h5⟩ := aStk_cons h4
            obtain ⟨z, rfl, hz⟩ := aM_lng hx hc1
            obtain ⟨w, rfl, hw⟩ := aM_lng hy hc2
            refine xs_op2 C (v := .int (lg_cmp z w)) rfl hdg (xs_if C (aTg_ok htg) hd2 (fun hc => ?_) (fun hc => ?_))
            · rw [lcmp_rel, hz, hw] at hc
              obtain ⟨R_q, r1, r2, r3⟩ := aRef_ok (a := a.2) (b := d.2) hA.1.1 hc
              exact kk _ (aTwo_in (Or.inl ⟨rfl, rfl⟩) r1) ρ α τ lv st_q h aSame_rf aSub_rf (wr h5 r2)
            · rw [lcmp_rel, hz, hw] at hc
              obtain ⟨R_q, r1, r2, r3⟩ := aRef_ok (a := a.2) (b := d.2) hA.1.1 (aNeg_ok hc)
              exact kk _ (aTwo_in (Or.inr ⟨rfl, rfl⟩) r1) ρ α τ lv st_q h aSame_rf aSub_rf (wr h5 r2)
          · cases hs
        · cases hs
      · cases hs
    · cases hs
  · cases hs
end XQ
