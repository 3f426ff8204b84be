/-! ===== a checker over the pure machine: what is known of numbers and references ===== -/
/-- what is known of a value: (0, k, o) an int, the number k and o; (1, k, o) a long, likewise; (2, k, _) the reference k, of a cell that is followed; (3, _, _) null; (4, k, K) the reference k, of a cell of the kind K; (5, k, K) that or null; (7, k, _) the script, the number k being its length; (8, _, _) some reference -/
abbrev aV : Type := Nat × Nat × Int
/-- the script: its place, its length, its first numbers -/
abbrev aSc : Type := Nat × Nat × (Nat → Int)
abbrev aRg : Type := List (Int × Int)
/-- a followed cell: which reference, its kind of cell, what it holds -/
abbrev aO : Type := Nat × Nat × List aV
/-- the numbers_q ranges, how many references, the locals, the stack, the followed cells, cells and slots made -/
abbrev aS : Type := aRg × Nat × List (Nat × aV) × List aV × List aO × Nat × Nat
/-- what every cell of a kind holds: (0, lo, hi) an int, (1, lo, hi) a long, (4, K, _) a reference of the kind K, (5, K, _) that or null -/
abbrev aF : Type := Nat × Int × Int
abbrev aKd : Type := Nat × Nat × List aF
def aG (R : aRg) (k : Nat) : Int × Int := R.getD k (0, 0)
def aOkR (R : aRg) (ρ : Nat → Int) : Prop := ∀ k : Nat, (aG R k).1 ≤ ρ k ∧ ρ k ≤ (aG R k).2
def aM (ρ : Nat → Int) (α : Nat → Option Nat) (τ : Nat → Option Nat) (b : aSc) (v : aV) (x : Value) : Prop :=
  match v.1 with
  | 0 => ∃ z : Int32, x = .int z ∧ z.toInt = ρ v.2.1 + v.2.2
  | 1 => ∃ z : Int64, x = .long z ∧ z.toInt = ρ v.2.1 + v.2.2
  | 2 => ∃ a : Nat, x = .ref a ∧ α v.2.1 = some a
  | 3 => x = .null
  | 4 => ∃ a : Nat, x = .ref a ∧ α v.2.1 = some a ∧ τ a = some v.2.2.toNat
  | 5 => (x = .null ∧ α v.2.1 = none) ∨ ∃ a : Nat, x = .ref a ∧ α v.2.1 = some a ∧ τ a = some v.2.2.toNat
  | 7 => x = .ref b.1 ∧ ρ v.2.1 = (b.2.1 : Int) ∧ ∀ j, j < 6 → ρ (v.2.1 + 1 + j) = b.2.2 j
  | 8 => ∃ a : Nat, x = .ref a
  | _ => False
def aFm (τ : Nat → Option Nat) (f : aF) (x : Value) : Prop :=
  match f.1 with
  | 0 => ∃ z : Int32, x = .int z ∧ f.2.1 ≤ z.toInt ∧ z.toInt ≤ f.2.2
  | 1 => ∃ z : Int64, x = .long z ∧ f.2.1 ≤ z.toInt ∧ z.toInt ≤ f.2.2
  | 4 => ∃ a : Nat, x = .ref a ∧ τ a = some f.2.1.toNat
  | 5 => x = .null ∨ ∃ a : Nat, x = .ref a ∧ τ a = some f.2.1.toNat
  | _ => False
/-- what a cell of the kind q holds at j -/
def aKf (q : aKd) (j : Nat) : aF := if q.1 < 1000 then q.2.2.getD j (9, 0, 0) else q.2.2.getD 0 (9, 0, 0)
def aKnd (kd : List aKd) (B : Nat) (τ : Nat → Option Nat) (h : xH) : Prop :=
  ∀ (a K : Nat), τ a = some K → ∃ (q : aKd) (V : Nat → Value), kd[K]? = some q ∧ B ≤ a ∧ h a = some (q.1, q.2.1, V) ∧ ∀ j, j < q.2.1 → aFm τ (aKf q j) (V j)
def aLoc (ρ : Nat → Int) (α τ : Nat → Option Nat) (b : aSc) (L : List (Nat × aV)) (lv : List (Nat × Value)) : Prop := ∀ q ∈ L, ∃ x, xget lv q.1 = some x ∧ aM ρ α τ b q.2 x
def aStk (ρ : Nat → Int) (α τ : Nat → Option Nat) (b : aSc) : List aV → List Value → Prop
  | [], [] => True
  | v :: vs, x :: xs => aM ρ α τ b v x ∧ aStk ρ α τ b vs xs
  | _, _ => False
def aOb1 (ρ : Nat → Int) (α τ : Nat → Option Nat) (b : aSc) (B : Nat) (o : aO) (h : xH) : Prop :=
  ∃ (a : Nat) (V : Nat → Value), α o.1 = some a ∧ B ≤ a ∧ τ a = none ∧ h a = some (o.2.1, o.2.2.length, V) ∧ ∀ (j : Nat) (v : aV), o.2.2[j]? = some v → aM ρ α τ b v (V j)
def aObs (ρ : Nat → Int) (α τ : Nat → Option Nat) (b : aSc) (B : Nat) (os : List aO) (h : xH) : Prop :=
  (∀ o ∈ os, aOb1 ρ α τ b B o h) ∧ os.Pairwise (fun o o_q => α o.1 ≠ α o_q.1)
def aSt (kd : List aKd) (B : Nat) (b : aSc) (ρ : Nat → Int) (α τ : Nat → Option Nat) (σ : aS) (lv : List (Nat × Value)) (st : List Value) (h : xH) : Prop :=
  aOkR σ.1 ρ ∧ aLoc ρ α τ b σ.2.2.1 lv ∧ aStk ρ α τ b σ.2.2.2.1 st ∧ aObs ρ α τ b B σ.2.2.2.2.1 h ∧ aKnd kd B τ h
/-! which numbers and references are in use -/
def aWv (n m : Nat) (v : aV) : Bool := if v.1 < 2 ∨ v.1 = 7 then Nat.blt (if v.1 = 7 then v.2.1 + 6 else v.2.1) n else Nat.blt v.2.1 m || Nat.beq v.1 3 || Nat.beq v.1 8
def aWf (σ : aS) : Bool := Nat.blt 0 σ.1.length && σ.2.2.1.all (fun q => aWv σ.1.length σ.2.1 q.2) && σ.2.2.2.1.all (aWv σ.1.length σ.2.1) && σ.2.2.2.2.1.all (fun o => Nat.blt o.1 σ.2.1 && o.2.2.all (aWv σ.1.length σ.2.1))
def aUp {β : Type} (f : Nat → β) (k : Nat) (x : β) : Nat → β := fun j => if j = k then x else f j
theorem aUp_self {β : Type} (f : Nat → β) (k : Nat) (x : β) : aUp f k x k = x := by simp [aUp]
theorem aUp_ne {β : Type} (f : Nat → β) {k j : Nat} (x : β) (h : j ≠ k) : aUp f k x j = f j := by simp [aUp, h]
/-- the numbers below n, and the references below m, are as they were -/
def aSame (n m : Nat) (ρ ρ_q : Nat → Int) (α α_q : Nat → Option Nat) : Prop := (∀ k, k < n → ρ_q k = ρ k) ∧ ∀ k, k < m → α_q k = α k
def aSub (τ τ_q : Nat → Option Nat) : Prop := ∀ a K, τ a = some K → τ_q a = some K
theorem aM_to {n m : Nat} {b : aSc} {ρ ρ_q : Nat → Int} {α α_q τ τ_q : Nat → Option Nat} {v : aV} {x : Value} (hs : aSame n m ρ ρ_q α α_q) (ht : aSub τ τ_q) (hw : aWv n m v = true) (h : aM ρ α τ b v x) : aM ρ_q α_q τ_q b v x := by
  obtain ⟨t, k, o⟩ := v
  have e1 : t < 2 ∨ t = 7 → k < n := fun hlt => by
    simp only [aWv, if_pos hlt] at hw
    have := (Nat.blt_eq).mp hw
    split at this <;> omega
  have e7 : t = 7 → k + 6 < n := fun h7 => by
    simp only [aWv, if_pos (Or.inr h7), if_pos h7] at hw
    exact (Nat.blt_eq).mp hw
  have e2 : ¬ (t < 2 ∨ t = 7) → t ≠ 3 → t ≠ 8 → k < m := fun hlt h3 h8 => by
    simp only [aWv, if_neg hlt, Bool.or_eq_true] at hw
    rcases hw with (hw | hw) | hw
    · exact (Nat.blt_eq).mp hw
    · exact absurd (Nat.eq_of_beq_eq_true hw) h3
    · exact absurd (Nat.eq_of_beq_eq_true hw) h8
  unfold aM at h ⊢
  dsimp only at h ⊢
  split at h
  · obtain ⟨z, h1, h2⟩ := h
    exact ⟨z, h1, by rw [hs.1 k (e1 (by decide))]; exact h2⟩
  · obtain ⟨z, h1, h2⟩ := h
    exact ⟨z, h1, by rw [hs.1 k (e1 (by decide))]; exact h2⟩
  · obtain ⟨a, h1, h2⟩ := h
    exact ⟨a, h1, by rw [hs.2 k (e2 (by decide) (by decide) (by decide))]; exact h2⟩
  · exact h
  · obtain ⟨a, h1, h2, h3⟩ := h
    exact ⟨a, h1, by rw [hs.2 k (e2 (by decide) (by decide) (by decide))]; exact h2, ht _ _ h3⟩
  · rcases h with ⟨h1, h2⟩ | ⟨a, h1, h2, h3⟩
    · exact Or.inl ⟨h1, by rw [hs.2 k (e2 (by decide) (by decide) (by decide))]; exact h2⟩
    · exact Or.inr ⟨a, h1, by rw [hs.2 k (e2 (by decide) (by decide) (by decide))]; exact h2, ht _ _ h3⟩
  · exact ⟨h.1, by rw [hs.1 k (e1 (by decide))]; exact h.2.1, fun j hj => by rw [hs.1 (k + 1 + j) (by have := e7 rfl; omega)]; exact h.2.2 j hj⟩
  · exact h
  · exact h.elim
theorem aFm_to {τ τ_q : Nat → Option Nat} {f : aF} {x : Value} (ht : aSub τ τ_q) (h : aFm τ f x) : aFm τ_q f x := by
  unfold aFm at h ⊢
  split at h
  · exact h
  · exact h
  · obtain ⟨a, h1, h2⟩ := h
    exact ⟨a, h1, ht _ _ h2⟩
  · rcases h with h | ⟨a, h1, h2⟩
    · exact Or.inl h
    · exact Or.inr ⟨a, h1, ht _ _ h2⟩
  · exact h.elim
theorem aLoc_to {n m : Nat} {b : aSc} {ρ ρ_q : Nat → Int} {α α_q τ τ_q : Nat → Option Nat} {L : List (Nat × aV)} {lv : List (Nat × Value)} (hs : aSame n m ρ ρ_q α α_q) (ht : aSub τ τ_q) (hw : L.all (fun q => aWv n m q.2) = true) (h : aLoc ρ α τ b L lv) : aLoc ρ_q α_q τ_q b L lv := by
  intro q hq
  obtain ⟨x, h1, h2⟩ := h q hq
  exact ⟨x, h1, aM_to hs ht (List.all_eq_true.mp hw q hq) h2⟩
theorem aStk_to {n m : Nat} {b : aSc} {ρ ρ_q : Nat → Int} {α α_q τ τ_q : Nat → Option Nat} (hs : aSame n m ρ ρ_q α α_q) (ht : aSub τ τ_q) : ∀ {L : List aV} {st : List Value}, L.all (aWv n m) = true → aStk ρ α τ b L st → aStk ρ_q α_q τ_q b L st
  | [], [], _, _ => trivial
  | v :: vs, x :: xs, hw, h => by
    simp only [List.all_cons, Bool.and_eq_true] at hw
    exact ⟨aM_to hs ht hw.1 h.1, aStk_to hs ht hw.2 h.2⟩
  | [], _ :: _, _, h => h.elim
  | _ :: _, [], _, h => h.elim
theorem aObs_to {n m B : Nat} {b : aSc} {ρ ρ_q : Nat → Int} {α α_q τ τ_q : Nat → Option Nat} {os : List aO} {h : xH} (hs : aSame n m ρ ρ_q α α_q) (ht : aSub τ τ_q) (hn : ∀ o ∈ os, ∀ a, α o.1 = some a → τ_q a = none) (hw : os.all (fun o => Nat.blt o.1 m && o.2.2.all (aWv n m)) = true) (h1 : aObs ρ α τ b B os h) : aObs ρ_q α_q τ_q b B os h := by
  have hk : ∀ o ∈ os, α_q o.1 = α o.1 := fun o ho => by
    have := List.all_eq_true.mp hw o ho
    simp only [Bool.and_eq_true] at this
    exact hs.2 _ ((Nat.blt_eq).mp this.1)
  refine ⟨fun o ho => ?_, ?_⟩
  · obtain ⟨a, V, g1, g2, g3, g4, g5⟩ := h1.1 o ho
    have := List.all_eq_true.mp hw o ho
    simp only [Bool.and_eq_true] at this
    exact ⟨a, V, by rw [hk o ho]; exact g1, g2, hn o ho a g1, g4, fun j v hv => aM_to hs ht (List.all_eq_true.mp this.2 v (List.mem_of_getElem? hv)) (g5 j v hv)⟩
  · refine List.Pairwise.imp_of_mem ?_ h1.2
    intro o o_q ho ho_q hne
    rw [hk o ho, hk o_q ho_q]
    exact hne
theorem aSub_rf {τ : Nat → Option Nat} : aSub τ τ := fun _ _ h => h
theorem aSame_rf {n m : Nat} {ρ : Nat → Int} {α : Nat → Option Nat} : aSame n m ρ ρ α α := ⟨fun _ _ => rfl, fun _ _ => rfl⟩
theorem aObs_null {ρ : Nat → Int} {α τ : Nat → Option Nat} {B : Nat} {b : aSc} {os : List aO} {h : xH} (h1 : aObs ρ α τ b B os h) : ∀ o ∈ os, ∀ a, α o.1 = some a → τ a = none := by
  intro o ho a ha
  obtain ⟨a_q, V, g1, g2, g3, -⟩ := h1.1 o ho
  rw [ha] at g1
  cases g1
  exact g3
/-- a new number -/
theorem aOkR_new {R : aRg} {ρ : Nat → Int} {lo hi z : Int} (h : aOkR R ρ) (h1 : lo ≤ z) (h2 : z ≤ hi) : aOkR (R ++ [(lo, hi)]) (aUp ρ R.length z) := by
  intro k
  unfold aG
  by_cases hk : k = R.length
  · subst hk
    rw [aUp_self, List.getD_eq_getElem?_getD]
    simp [h1, h2]
  · rw [aUp_ne _ _ hk]
    have := h k
    unfold aG at this
    rw [List.getD_eq_getElem?_getD] at this ⊢
    by_cases hlt : k < R.length
    · rw [List.getElem?_append_left hlt]
      exact this
    · rw [List.getElem?_eq_none (by simp; omega)]
      rw [List.getElem?_eq_none (by omega)] at this
      exact this
theorem aOkR_set {R : aRg} {ρ : Nat → Int} {k : Nat} {lo hi : Int} (h : aOkR R ρ) (h1 : lo ≤ ρ k) (h2 : ρ k ≤ hi) : aOkR (R.set k (lo, hi)) ρ := by
  intro j
  have hj := h j
  unfold aG at hj ⊢
  rw [List.getD_eq_getElem?_getD] at hj ⊢
  rw [List.getElem?_set]
  by_cases e : k = j
  · subst e
    by_cases hlt : k < R.length
    · simp [hlt, h1, h2]
    · rw [List.getElem?_eq_none (by omega)] at hj
      simp [hlt]
      exact hj
  · rw [if_neg e]
    exact hj
