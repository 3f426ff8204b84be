/-! ===== LAYERS: what both work out ===== -/
theorem cn_sub {p q : Int → Bool} {g : Int} (g0 : 0 ≤ g) (h : ∀ j, 0 ≤ j → j < g → p j = true → q j = true) : cn p g ≤ cn q g := by
  have key : ∀ d : Nat, (d : Int) ≤ g → cn p (d : Int) ≤ cn q (d : Int) := by
    intro d
    induction d with
    | zero => intro _; exact Int.le_refl _
    | succ d ih =>
      intro hd
      have i := ih (by omega)
      rw [show ((d + 1 : Nat) : Int) = (d : Int) + 1 by omega, cn_s (by omega), cn_s (by omega)]
      by_cases b : p (d : Int) = true
      · rw [if_pos b, if_pos (h d (by omega) (by omega) b)]; omega
      · rw [if_neg b]
        split <;> omega
  have := key g.toNat (by omega)
  rw [show ((g.toNat : Nat) : Int) = g by omega] at this
  exact this
theorem cn_sub1 {p q : Int → Bool} {g x : Int} (x0 : 0 ≤ x) (x1 : x < g) (h : ∀ j, 0 ≤ j → j < g → p j = true → q j = true) (hq : q x = true) (hp : p x = false) : cn p g + 1 ≤ cn q g := by
  have a1 := cn_sub (p := p) (q := q) x0 (fun j j0 j1 => h j j0 (by omega))
  have key : ∀ d : Nat, x + 1 + (d : Int) ≤ g → cn p (x + 1 + (d : Int)) + 1 ≤ cn q (x + 1 + (d : Int)) := by
    intro d
    induction d with
    | zero =>
      intro _
      rw [show x + 1 + ((0 : Nat) : Int) = x + 1 by omega, cn_s x0, cn_s x0, if_pos hq, hp, if_neg (by decide)]
      omega
    | succ d ih =>
      intro hd
      have i := ih (by omega)
      rw [show x + 1 + ((d + 1 : Nat) : Int) = (x + 1 + (d : Int)) + 1 by omega, cn_s (by omega), cn_s (by omega)]
      by_cases b : p (x + 1 + (d : Int)) = true
      · rw [if_pos b, if_pos (h _ (by omega) (by omega) b)]; omega
      · rw [if_neg b]
        split <;> omega
  have := key (g - x - 1).toNat (by omega)
  rw [show x + 1 + (((g - x - 1).toNat : Nat) : Int) = g by omega] at this
  exact this
/-- a number below P that no PREDICATE has -/
theorem gap {P x : Int} {f : Int → Int} (x0 : 0 ≤ x) (x1 : x < P) (hx : P ≤ f x) : ∃ k, 0 ≤ k ∧ k < P ∧ ∀ p, 0 ≤ p → p < P → f p ≠ k := by
  by_cases hex : ∃ k, 0 ≤ k ∧ k < P ∧ ∀ p, 0 ≤ p → p < P → f p ≠ k
  · exact hex
  · exfalso
    have all : ∀ k, 0 ≤ k → k < P → ∃ p, 0 ≤ p ∧ p < P ∧ f p = k := by
      intro k k0 k1
      by_cases e : ∃ p, 0 ≤ p ∧ p < P ∧ f p = k
      · exact e
      · exact absurd ⟨k, k0, k1, fun p p0 p1 p2 => e ⟨p, p0, p1, p2⟩⟩ hex
    have key : ∀ d : Nat, (d : Int) ≤ P → (d : Int) ≤ cn (fun p => decide (f p < (d : Int))) P := by
      intro d
      induction d with
      | zero => intro _; exact cn_ge (by omega)
      | succ d ih =>
        intro hd
        obtain ⟨p, p0, p1, p2⟩ := all (d : Int) (by omega) (by omega)
        have := cn_sub1 (p := fun p => decide (f p < (d : Int))) (q := fun p => decide (f p < ((d + 1 : Nat) : Int))) p0 p1 (fun j _ _ hj => decide_eq_true (by have := of_decide_eq_true hj; omega)) (decide_eq_true (by omega)) (decide_eq_false (by omega))
        have i := ih (by omega)
        omega
    have k1 := key P.toNat (by omega)
    rw [show ((P.toNat : Nat) : Int) = P by omega] at k1
    have k2 := cn_sub1 (p := fun p => decide (f p < P)) (q := fun _ => true) (g := P) x0 x1 (fun _ _ _ _ => rfl) rfl (decide_eq_false (by omega))
    have k3 := cn_top (p := fun _ => true) (g := P) (by omega)
    omega
/-- f keeps what the RULES ask: Cn a b d says f a + d is at most f b -/
noncomputable def pF (P : Int) (Cn : Int → Int → Int → Prop) (f : Int → Int) : Prop := (∀ p, 0 ≤ p → p < P → 0 ≤ f p) ∧ ∀ a b d, Cn a b d → f a + d ≤ f b
theorem pF_gap {P k : Int} {Cn : Int → Int → Int → Prop} {f : Int → Int} (hC : ∀ a b d, Cn a b d → (0 ≤ a ∧ a < P) ∧ (0 ≤ b ∧ b < P) ∧ (d = 0 ∨ d = 1)) (h : pF P Cn f) (k0 : 0 ≤ k) (hk : ∀ p, 0 ≤ p → p < P → f p ≠ k) : pF P Cn (fun p => if k < f p then f p - 1 else f p) := by
  refine ⟨fun p p0 p1 => ?_, fun a b d hc => ?_⟩
  · have := h.1 p p0 p1
    show 0 ≤ if k < f p then f p - 1 else f p
    split <;> omega
  · obtain ⟨⟨a0, a1⟩, ⟨b0, b1⟩, hd⟩ := hC a b d hc
    have e1 := h.2 a b d hc
    have e2 := hk a a0 a1
    have e3 := hk b b0 b1
    show (if k < f a then f a - 1 else f a) + d ≤ if k < f b then f b - 1 else f b
    by_cases ka : k < f a
    · by_cases kb : k < f b
      · rw [if_pos ka, if_pos kb]; omega
      · omega
    · by_cases kb : k < f b
      · rw [if_neg ka, if_pos kb]; omega
      · rw [if_neg ka, if_neg kb]; omega
/-- the least that keeps it stays below the number of PREDICATES -/
theorem pF_low {P : Int} {Cn : Int → Int → Int → Prop} {f : Int → Int} (hC : ∀ a b d, Cn a b d → (0 ≤ a ∧ a < P) ∧ (0 ≤ b ∧ b < P) ∧ (d = 0 ∨ d = 1)) (h : pF P Cn f) (hl : ∀ g, pF P Cn g → ∀ p, 0 ≤ p → p < P → f p ≤ g p) : ∀ p, 0 ≤ p → p < P → f p < P := by
  intro p p0 p1
  by_cases b : f p < P
  · exact b
  · obtain ⟨k, k0, k1, k2⟩ := gap p0 p1 (by omega : P ≤ f p)
    have := hl _ (pF_gap hC h k0 k2) p p0 p1
    have this : f p ≤ if k < f p then f p - 1 else f p := this
    rw [if_pos (by omega)] at this
    omega
