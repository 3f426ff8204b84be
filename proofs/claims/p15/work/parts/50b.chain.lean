/-! ===== chains ===== -/
theorem pIx_more {q : Int → Bool} {n i : Int} (hi : i ≤ n) : pIx q (n + 1) i = if pIx q n i < n then pIx q n i else if q n = true then n + 1 else n := by
  have hle := pIx_le (q := q) (n := n) (i := i)
  have htop := pIx_top (q := q) (n := n) hi
  have e : pIx q (n + 1) i = pIx q (n + 1) (pIx q n i) := pIx_skip _ i _ (Nat.le_refl _) hle (by omega) (fun j j0 j1 => pIx_in j0 j1)
  rw [e]
  by_cases h : pIx q n i < n
  · rw [if_pos h]
    have hs := pIx_stop h
    exact pIx_no (fun z => by rw [hs] at z; exact absurd z.2 (by decide))
  · have hn : pIx q n i = n := by omega
    rw [if_neg h, hn]
    by_cases hq : q n = true
    · rw [if_pos hq, pIx_go (by omega) hq, pIx_no (fun z => by omega)]
    · rw [if_neg hq]
      exact pIx_no (fun z => hq z.2)
/-- the first member of the chain x from i on, or -1 -/
noncomputable def pCh (ch : Int → Int) (n x i : Int) : Int := if n ≤ pIx (fun t => decide (ch t ≠ x)) n i then -1 else pIx (fun t => decide (ch t ≠ x)) n i
theorem pCh_none {ch : Int → Int} {n x i : Int} (hi : 0 ≤ i) : pCh ch n x i = -1 ↔ ∀ j, i ≤ j → j < n → ch j ≠ x := by
  have hle := pIx_le (q := fun t => decide (ch t ≠ x)) (n := n) (i := i)
  unfold pCh
  constructor
  · intro h j j0 j1
    by_cases b : n ≤ pIx (fun t => decide (ch t ≠ x)) n i
    · have := pIx_in (q := fun t => decide (ch t ≠ x)) (n := n) (i := i) j0 (by omega)
      simpa using this
    · rw [if_neg b] at h
      omega
  · intro h
    by_cases b : i ≤ n
    · rw [pIx_end b (fun j j0 j1 => decide_eq_true (h j j0 j1)), if_pos (Int.le_refl _)]
    · rw [pIx_no (fun z => by omega), if_pos (by omega)]
theorem pCh_mem {ch : Int → Int} {n x i : Int} (h : pCh ch n x i ≠ -1) : i ≤ pCh ch n x i ∧ pCh ch n x i < n ∧ ch (pCh ch n x i) = x ∧ ∀ j, i ≤ j → j < pCh ch n x i → ch j ≠ x := by
  unfold pCh at h ⊢
  by_cases b : n ≤ pIx (fun t => decide (ch t ≠ x)) n i
  · rw [if_pos b] at h
    exact absurd rfl h
  · rw [if_neg b]
    refine ⟨pIx_le, by omega, ?_, fun j j0 j1 => ?_⟩
    · have := pIx_stop (q := fun t => decide (ch t ≠ x)) (n := n) (i := i) (by omega)
      simpa using this
    · have := pIx_in (q := fun t => decide (ch t ≠ x)) (n := n) (i := i) j0 j1
      simpa using this
theorem pCh_more {ch ch_q : Int → Int} {n x i : Int} (hi0 : 0 ≤ i) (hi : i ≤ n) (hc : ∀ t, 0 ≤ t → t < n → ch_q t = ch t) : pCh ch_q (n + 1) x i = if pCh ch n x i ≠ -1 then pCh ch n x i else if ch_q n = x then n else -1 := by
  have e : pIx (fun t => decide (ch_q t ≠ x)) n i = pIx (fun t => decide (ch t ≠ x)) n i := pIx_congr _ i (Nat.le_refl _) (fun j j0 j1 => by rw [hc j (by omega) j1])
  have hle := pIx_le (q := fun t => decide (ch t ≠ x)) (n := n) (i := i)
  have htop := pIx_top (q := fun t => decide (ch t ≠ x)) (n := n) hi
  unfold pCh
  rw [pIx_more hi, e]
  generalize pIx (fun t => decide (ch t ≠ x)) n i = P at *
  by_cases h : P < n
  · rw [if_pos h, if_neg (show ¬ n + 1 ≤ P by omega), if_neg (show ¬ n ≤ P by omega), if_pos (show P ≠ -1 by omega)]
  · rw [if_neg h, if_pos (show n ≤ P by omega), if_neg (show ¬ (-1 : Int) ≠ -1 from fun z => z rfl)]
    by_cases hx : ch_q n = x
    · rw [if_pos hx, if_neg (show ¬ decide (ch_q n ≠ x) = true by simp [hx]), if_neg (show ¬ n + 1 ≤ n by omega)]
    · rw [if_neg hx, if_pos (show decide (ch_q n ≠ x) = true by simpa using hx), if_pos (Int.le_refl _)]
/-- F: the first of each chain, L: the last, N: the next of each member -/
noncomputable def cH (F L N : Nat) (D : Int → Prop) (ch : Int → Int) (n : Int) (c : rHp) : Prop := 0 ≤ n ∧ (∀ t, 0 ≤ t → t < n → D (ch t)) ∧ (∀ x, D x → c F 0 x = pCh ch n x 0) ∧ (∀ t, 0 ≤ t → t < n → c N 0 t = pCh ch n (ch t) (t + 1)) ∧ ∀ x, D x → 0 ≤ c F 0 x → 0 ≤ c L 0 x ∧ c L 0 x < n ∧ ch (c L 0 x) = x ∧ ∀ t, c L 0 x < t → t < n → ch t ≠ x
theorem cH_add {F L N : Nat} {D : Int → Prop} {ch ch_q : Int → Int} {n : Int} {c c_q : rHp} (h : cH F L N D ch n c) (hc : ∀ t, 0 ≤ t → t < n → ch_q t = ch t) (hD : D (ch_q n)) (hF : ∀ x, D x → c_q F 0 x = if x = ch_q n ∧ c F 0 x < 0 then n else c F 0 x) (hL : ∀ x, D x → c_q L 0 x = if x = ch_q n then n else c L 0 x) (hN : ∀ t, 0 ≤ t → t ≤ n → c_q N 0 t = if t = n then -1 else if t = c L 0 (ch_q n) ∧ 0 ≤ c F 0 (ch_q n) then n else c N 0 t) : cH F L N D ch_q (n + 1) c_q := by
  obtain ⟨n0, h1, h2, h3, h4⟩ := h
  have rg : ∀ x, c F 0 x = pCh ch n x 0 → (c F 0 x < 0 ↔ pCh ch n x 0 = -1) := by
    intro x e
    rw [e]
    constructor
    · intro z
      by_cases b : pCh ch n x 0 = -1
      · exact b
      · have := (pCh_mem b).1
        omega
    · intro z
      rw [z]
      decide
  refine ⟨by omega, fun t t0 t1 => ?_, fun x hx => ?_, fun t t0 t1 => ?_, fun x hx hx0 => ?_⟩
  · by_cases e : t = n
    · rw [e]; exact hD
    · rw [hc t t0 (by omega)]; exact h1 t t0 (by omega)
  · rw [hF x hx, pCh_more (Int.le_refl 0) n0 hc]
    have r := rg x (h2 x hx)
    by_cases b : pCh ch n x 0 = -1
    · rw [if_neg (show ¬ pCh ch n x 0 ≠ -1 from fun z => z b)]
      by_cases e : ch_q n = x
      · rw [if_pos e, if_pos (show x = ch_q n ∧ c F 0 x < 0 from ⟨e.symm, r.2 b⟩)]
      · rw [if_neg e, if_neg (show ¬ (x = ch_q n ∧ c F 0 x < 0) from fun z => e z.1.symm), h2 x hx, b]
    · rw [if_pos b, if_neg (show ¬ (x = ch_q n ∧ c F 0 x < 0) from fun z => b (r.1 z.2)), h2 x hx]
  · rw [hN t t0 (by omega)]
    by_cases e : t = n
    · rw [if_pos e, e]
      exact ((pCh_none (by omega)).2 (fun j j0 j1 => by omega)).symm
    · have tn : t < n := by omega
      rw [if_neg e, hc t t0 tn, pCh_more (by omega) (by omega) hc]
      by_cases b : t = c L 0 (ch_q n) ∧ 0 ≤ c F 0 (ch_q n)
      · rw [if_pos b]
        obtain ⟨l1, l2, l3, l4⟩ := h4 (ch_q n) hD b.2
        have ex : ch t = ch_q n := by rw [b.1]; exact l3
        rw [if_neg (show ¬ pCh ch n (ch t) (t + 1) ≠ -1 from fun z => z ((pCh_none (by omega)).2 (fun j j0 j1 => by rw [ex]; exact l4 j (by omega) j1))), if_pos ex.symm]
      · rw [if_neg b]
        by_cases b2 : pCh ch n (ch t) (t + 1) = -1
        · rw [if_neg (show ¬ pCh ch n (ch t) (t + 1) ≠ -1 from fun z => z b2), h3 t t0 tn, b2]
          have no : ¬ ch_q n = ch t := by
            intro ex
            have mem : ¬ pCh ch n (ch t) 0 = -1 := fun z => (pCh_none (Int.le_refl 0)).1 z t t0 tn rfl
            have f0 : 0 ≤ c F 0 (ch_q n) := by
              have := (rg (ch_q n) (h2 _ hD))
              rw [ex] at this ⊢
              by_cases q : c F 0 (ch t) < 0
              · exact absurd (this.1 q) mem
              · omega
            obtain ⟨l1, l2, l3, l4⟩ := h4 (ch_q n) hD f0
            by_cases q1 : t < c L 0 (ch_q n)
            · exact (pCh_none (by omega)).1 b2 (c L 0 (ch_q n)) (by omega) l2 (by rw [l3, ex])
            · by_cases q2 : c L 0 (ch_q n) < t
              · exact l4 t q2 tn ex.symm
              · exact b ⟨by omega, f0⟩
          rw [if_neg no]
        · rw [if_pos b2, h3 t t0 tn]
  · rw [hL x hx]
    by_cases e : x = ch_q n
    · rw [if_pos e]
      exact ⟨n0, by omega, e.symm, fun t t0 t1 => by omega⟩
    · rw [if_neg e]
      have f0 : 0 ≤ c F 0 x := by
        have := hF x hx
        rw [if_neg (fun z => e z.1)] at this
        rw [← this]; exact hx0
      obtain ⟨l1, l2, l3, l4⟩ := h4 x hx f0
      refine ⟨l1, by omega, by rw [hc _ l1 l2]; exact l3, fun t t0 t1 => ?_⟩
      by_cases et : t = n
      · rw [et]; exact fun z => e z.symm
      · rw [hc t (by omega) (by omega)]; exact l4 t t0 (by omega)
/-- empty chains -/
theorem cH_nil {F L N : Nat} {D : Int → Prop} {ch : Int → Int} {c : rHp} (hF : ∀ x, D x → c F 0 x = -1) : cH F L N D ch 0 c := by
  refine ⟨Int.le_refl 0, fun t t0 t1 => by omega, fun x hx => ?_, fun t t0 t1 => by omega, fun x hx hx0 => ?_⟩
  · rw [hF x hx]
    exact ((pCh_none (Int.le_refl 0)).2 (fun j j0 j1 => by omega)).symm
  · rw [hF x hx] at hx0
    omega
