/-! ===== rows by their places, many steps at a time ===== -/
noncomputable def zRnG (ρ : Nat → Int) (v : Nat) : aRg → Nat → Prop
  | [], _ => True
  | q :: _, 0 => q.1 ≤ ρ v ∧ ρ v ≤ q.2
  | _ :: r, n + 1 => zRnG ρ v r n
theorem zRnG_of {ρ : Nat → Int} : ∀ {R : aRg} {k : Nat}, zRn ρ k R → ∀ i : Nat, zRnG ρ (k + i) R i
  | [], _, _, _ => trivial
  | q :: r, k, h, 0 => h.1
  | q :: r, k, h, i + 1 => by
    have := zRnG_of h.2 i
    rw [show k + 1 + i = k + (i + 1) by omega] at this
    exact this
theorem zRnA {ρ : Nat → Int} {R : aRg} (h : zRn ρ 0 R) (i : Nat) : zRnG ρ i R i := by
  have := zRnG_of h i
  rw [Nat.zero_add] at this
  exact this
noncomputable def zAllG {α : Type} (P : α → Prop) : List α → Nat → Prop
  | [], _ => True
  | x :: _, 0 => P x
  | _ :: r, n + 1 => zAllG P r n
theorem zAllA {α : Type} {P : α → Prop} : ∀ {l : List α}, zAll P l → ∀ i : Nat, zAllG P l i
  | [], _, _ => trivial
  | _ :: _, h, 0 => h.1
  | _ :: _, h, i + 1 => zAllA h.2 i
noncomputable def zChG (ρ : Nat → Int) (γ : Nat → rHp) : List rD → Nat → Prop
  | [], _ => True
  | d :: r, 0 => zCh ρ γ (d :: r)
  | _ :: r, n + 1 => zChG ρ γ r n
theorem zChA {ρ : Nat → Int} {γ : Nat → rHp} : ∀ {l : List rD}, zCh ρ γ l → ∀ i : Nat, zChG ρ γ l i
  | [], _, _ => trivial
  | _ :: _, h, 0 => h
  | _ :: _, h, i + 1 => zChA h.1 i
abbrev zIm (S : Nat → zSpc) (k : Nat) (s : zSpc) : Prop := ∀ (x : List Int) (g : rHp) (o : Nat) (v : Int) (gz : rHp), S k x g o v gz → s x g o v gz
theorem zLE {α β : Type} {x y : α} {f : α → β} {c : β} (h : x = y) (k : f y = c) : zLet x f = c := (zLet_eq h).trans k
theorem zLV {α β : Type} {x : α} {f : α → β} {c : β} (y : α) (h : x = y) (k : f y = c) : zLet x f = c := (zLet_eq h).trans k
theorem zIP {p : Prop} {d : Decidable p} {α : Type} {t e c : α} (h : p) (k : t = c) : @ite α p d t e = c := (if_pos h).trans k
theorem zIN {p : Prop} {d : Decidable p} {α : Type} {t e c : α} (h : ¬ p) (k : e = c) : @ite α p d t e = c := (if_neg h).trans k
