/-! ===== a TUPLE comes: the reference ===== -/
theorem pTp_pCh {m : rHp} {p i : Int} : pTp m p i = pCh (fun t => m 93 0 t) (m 15 0 71) p i := rfl
/-- the reference's chains with their ends -/
noncomputable def cR (m : rHp) : Prop := cH 100 101 96 (fun x => 0 ≤ x ∧ x < m 15 0 13) (fun t => m 93 0 t) (m 15 0 71) m
/-- the heap with the new TUPLE, ahead of its GROUNDS -/
noncomputable def mNew (p ru : Int) (m : rHp) : rHp :=
  if m 100 0 p ≥ 0 then rUp (rUp (rUp (rUp (rUp (rUp (rUp (rUp (rUp (rUp (rUp (rUp m 15 0 71 (m 15 0 71 + 1)) 93 0 (m 15 0 71) p) 94 0 (m 15 0 71) (m 15 0 76)) 95 0 (m 15 0 71) ru) 96 0 (m 15 0 71) (-1)) 97 0 (m 15 0 71) 0) 99 0 (4 * m 15 0 71) (m 102 0 0)) 99 0 (4 * m 15 0 71 + 1) (m 102 0 1)) 99 0 (4 * m 15 0 71 + 2) (m 102 0 2)) 99 0 (4 * m 15 0 71 + 3) (m 102 0 3)) 96 0 (m 101 0 p) (m 15 0 71)) 101 0 p (m 15 0 71)
  else rUp (rUp (rUp (rUp (rUp (rUp (rUp (rUp (rUp (rUp (rUp (rUp m 15 0 71 (m 15 0 71 + 1)) 93 0 (m 15 0 71) p) 94 0 (m 15 0 71) (m 15 0 76)) 95 0 (m 15 0 71) ru) 96 0 (m 15 0 71) (-1)) 97 0 (m 15 0 71) 0) 99 0 (4 * m 15 0 71) (m 102 0 0)) 99 0 (4 * m 15 0 71 + 1) (m 102 0 1)) 99 0 (4 * m 15 0 71 + 2) (m 102 0 2)) 99 0 (4 * m 15 0 71 + 3) (m 102 0 3)) 100 0 p (m 15 0 71)) 101 0 p (m 15 0 71)
theorem dn57_eq {p ru v : Int} {m : rHp} (h56 : fn56 [p] m = (0, v, m)) (hz : ∀ k, 0 ≤ k → k < 4 → m 66 0 p ≤ k → m 102 0 k = 0) : dn57 [p, ru] m = if v < 0 then (if m 15 0 71 ≠ 2000 then .inl (0, [p, ru, 0], mNew p ru m) else .inr (0, 0, rUp m 15 0 77 3)) else .inr (0, 0, m) := by
  unfold dn57
  simp only [zLet, List.getD_cons_zero, List.getD_cons_succ, h56]
  by_cases hv : v < 0
  · rw [if_pos hv, if_pos hv]
    by_cases hn : m 15 0 71 ≠ 2000
    · rw [if_pos hn, if_pos hn]
      unfold mNew
      by_cases a0 : 0 ≥ m 66 0 p
      · rw [if_pos a0, hz 0 (by decide) (by decide) (by omega), hz 1 (by decide) (by decide) (by omega), hz 2 (by decide) (by decide) (by omega), hz 3 (by decide) (by decide) (by omega)]
        by_cases b : m 100 0 p ≥ 0
        · rw [if_pos b, if_pos b]
        · rw [if_neg b, if_neg b]
      · rw [if_neg a0]
        by_cases a1 : 1 ≥ m 66 0 p
        · rw [if_pos a1, hz 1 (by decide) (by decide) (by omega), hz 2 (by decide) (by decide) (by omega), hz 3 (by decide) (by decide) (by omega)]
          by_cases b : m 100 0 p ≥ 0
          · rw [if_pos b, if_pos b]
          · rw [if_neg b, if_neg b]
        · rw [if_neg a1]
          by_cases a2 : 2 ≥ m 66 0 p
          · rw [if_pos a2, hz 2 (by decide) (by decide) (by omega), hz 3 (by decide) (by decide) (by omega)]
            by_cases b : m 100 0 p ≥ 0
            · rw [if_pos b, if_pos b]
            · rw [if_neg b, if_neg b]
          · rw [if_neg a2]
            by_cases a3 : 3 ≥ m 66 0 p
            · rw [if_pos a3, hz 3 (by decide) (by decide) (by omega)]
              by_cases b : m 100 0 p ≥ 0
              · rw [if_pos b, if_pos b]
              · rw [if_neg b, if_neg b]
            · rw [if_neg a3]
              by_cases b : m 100 0 p ≥ 0
              · rw [if_pos b, if_pos b]
              · rw [if_neg b, if_neg b]
    · rw [if_neg hn, if_neg hn]
  · rw [if_neg hv, if_neg hv]
theorem mNew_grp {p ru : Int} {m : rHp} {K : Nat} (h : K ≠ 15 ∧ K ≠ 93 ∧ K ≠ 94 ∧ K ≠ 95) (h2 : K ≠ 96 ∧ K ≠ 97 ∧ K ≠ 99 ∧ K ≠ 100 ∧ K ≠ 101) : mNew p ru m K = m K := by
  unfold mNew
  obtain ⟨k15, k93, k94, k95⟩ := h
  obtain ⟨k96, k97, k99, k100, k101⟩ := h2
  by_cases b : m 100 0 p ≥ 0
  · rw [if_pos b, rUp_grp k101, rUp_grp k96, rUp_grp k99, rUp_grp k99, rUp_grp k99, rUp_grp k99, rUp_grp k97, rUp_grp k96, rUp_grp k95, rUp_grp k94, rUp_grp k93, rUp_grp k15]
  · rw [if_neg b, rUp_grp k101, rUp_grp k100, rUp_grp k99, rUp_grp k99, rUp_grp k99, rUp_grp k99, rUp_grp k97, rUp_grp k96, rUp_grp k95, rUp_grp k94, rUp_grp k93, rUp_grp k15]
/-- what lies in a group that is written once -/
theorem rUp_in {G : Nat} {g : rHp} {n v j : Int} : rUp g G 0 n v G 0 j = if j = n then v else g G 0 j := by
  by_cases e : j = n
  · rw [e, rUp_at, if_pos rfl]
  · rw [rUp_ne (fun z => e z.2.2), if_neg e]
theorem mNew_15 {p ru j : Int} {m : rHp} : mNew p ru m 15 0 j = if j = 71 then m 15 0 71 + 1 else m 15 0 j := by
  unfold mNew
  by_cases b : m 100 0 p ≥ 0
  · rw [if_pos b, rUp_grp (by decide), rUp_grp (by decide), rUp_grp (by decide), rUp_grp (by decide), rUp_grp (by decide), rUp_grp (by decide), rUp_grp (by decide), rUp_grp (by decide), rUp_grp (by decide), rUp_grp (by decide), rUp_grp (by decide), rUp_in]
  · rw [if_neg b, rUp_grp (by decide), rUp_grp (by decide), rUp_grp (by decide), rUp_grp (by decide), rUp_grp (by decide), rUp_grp (by decide), rUp_grp (by decide), rUp_grp (by decide), rUp_grp (by decide), rUp_grp (by decide), rUp_grp (by decide), rUp_in]
theorem mNew_93 {p ru j : Int} {m : rHp} : mNew p ru m 93 0 j = if j = m 15 0 71 then p else m 93 0 j := by
  unfold mNew
  by_cases b : m 100 0 p ≥ 0
  · rw [if_pos b, rUp_grp (by decide), rUp_grp (by decide), rUp_grp (by decide), rUp_grp (by decide), rUp_grp (by decide), rUp_grp (by decide), rUp_grp (by decide), rUp_grp (by decide), rUp_grp (by decide), rUp_grp (by decide), rUp_in, rUp_grp (by decide)]
  · rw [if_neg b, rUp_grp (by decide), rUp_grp (by decide), rUp_grp (by decide), rUp_grp (by decide), rUp_grp (by decide), rUp_grp (by decide), rUp_grp (by decide), rUp_grp (by decide), rUp_grp (by decide), rUp_grp (by decide), rUp_in, rUp_grp (by decide)]
theorem mNew_94 {p ru j : Int} {m : rHp} : mNew p ru m 94 0 j = if j = m 15 0 71 then m 15 0 76 else m 94 0 j := by
  unfold mNew
  by_cases b : m 100 0 p ≥ 0
  · rw [if_pos b, rUp_grp (by decide), rUp_grp (by decide), rUp_grp (by decide), rUp_grp (by decide), rUp_grp (by decide), rUp_grp (by decide), rUp_grp (by decide), rUp_grp (by decide), rUp_grp (by decide), rUp_in, rUp_grp (by decide), rUp_grp (by decide)]
  · rw [if_neg b, rUp_grp (by decide), rUp_grp (by decide), rUp_grp (by decide), rUp_grp (by decide), rUp_grp (by decide), rUp_grp (by decide), rUp_grp (by decide), rUp_grp (by decide), rUp_grp (by decide), rUp_in, rUp_grp (by decide), rUp_grp (by decide)]
theorem mNew_95 {p ru j : Int} {m : rHp} : mNew p ru m 95 0 j = if j = m 15 0 71 then ru else m 95 0 j := by
  unfold mNew
  by_cases b : m 100 0 p ≥ 0
  · rw [if_pos b, rUp_grp (by decide), rUp_grp (by decide), rUp_grp (by decide), rUp_grp (by decide), rUp_grp (by decide), rUp_grp (by decide), rUp_grp (by decide), rUp_grp (by decide), rUp_in, rUp_grp (by decide), rUp_grp (by decide), rUp_grp (by decide)]
  · rw [if_neg b, rUp_grp (by decide), rUp_grp (by decide), rUp_grp (by decide), rUp_grp (by decide), rUp_grp (by decide), rUp_grp (by decide), rUp_grp (by decide), rUp_grp (by decide), rUp_in, rUp_grp (by decide), rUp_grp (by decide), rUp_grp (by decide)]
theorem mNew_97 {p ru j : Int} {m : rHp} : mNew p ru m 97 0 j = if j = m 15 0 71 then 0 else m 97 0 j := by
  unfold mNew
  by_cases b : m 100 0 p ≥ 0
  · rw [if_pos b, rUp_grp (by decide), rUp_grp (by decide), rUp_grp (by decide), rUp_grp (by decide), rUp_grp (by decide), rUp_grp (by decide), rUp_in, rUp_grp (by decide), rUp_grp (by decide), rUp_grp (by decide), rUp_grp (by decide), rUp_grp (by decide)]
  · rw [if_neg b, rUp_grp (by decide), rUp_grp (by decide), rUp_grp (by decide), rUp_grp (by decide), rUp_grp (by decide), rUp_grp (by decide), rUp_in, rUp_grp (by decide), rUp_grp (by decide), rUp_grp (by decide), rUp_grp (by decide), rUp_grp (by decide)]
theorem mNew_99 {p ru j : Int} {m : rHp} : mNew p ru m 99 0 j = if j = 4 * m 15 0 71 + 3 then m 102 0 3 else if j = 4 * m 15 0 71 + 2 then m 102 0 2 else if j = 4 * m 15 0 71 + 1 then m 102 0 1 else if j = 4 * m 15 0 71 then m 102 0 0 else m 99 0 j := by
  unfold mNew
  by_cases b : m 100 0 p ≥ 0
  · rw [if_pos b, rUp_grp (by decide), rUp_grp (by decide), rUp_in, rUp_in, rUp_in, rUp_in, rUp_grp (by decide), rUp_grp (by decide), rUp_grp (by decide), rUp_grp (by decide), rUp_grp (by decide), rUp_grp (by decide)]
  · rw [if_neg b, rUp_grp (by decide), rUp_grp (by decide), rUp_in, rUp_in, rUp_in, rUp_in, rUp_grp (by decide), rUp_grp (by decide), rUp_grp (by decide), rUp_grp (by decide), rUp_grp (by decide), rUp_grp (by decide)]
theorem mNew_new {p ru k : Int} {m : rHp} (k0 : 0 ≤ k) (k4 : k < 4) : mNew p ru m 99 0 (k + 4 * m 15 0 71) = m 102 0 k := by
  rw [mNew_99]
  by_cases e3 : k = 3
  · rw [e3, if_pos (by omega)]
  · rw [if_neg (by omega)]
    by_cases e2 : k = 2
    · rw [e2, if_pos (by omega)]
    · rw [if_neg (by omega)]
      by_cases e1 : k = 1
      · rw [e1, if_pos (by omega)]
      · rw [if_neg (by omega), if_pos (by omega), show k = 0 by omega]
theorem mNew_old {p ru j : Int} {m : rHp} (h : j < 4 * m 15 0 71) : mNew p ru m 99 0 j = m 99 0 j := by
  rw [mNew_99, if_neg (by omega), if_neg (by omega), if_neg (by omega), if_neg (by omega)]
/-- the chains, with the new TUPLE in them -/
theorem mNew_cR {p ru : Int} {m : rHp} (h : cR m) (hp : 0 ≤ p ∧ p < m 15 0 13) : cR (mNew p ru m) := by
  unfold cR at h ⊢
  rw [mNew_15, if_neg (by decide), mNew_15, if_pos rfl]
  have hl := h.2.2.2.2 p hp
  refine cH_add h (fun t t0 t1 => ?_) ?_ (fun x hx => ?_) (fun x hx => ?_) (fun t t0 t1 => ?_)
  · show mNew p ru m 93 0 t = m 93 0 t
    rw [mNew_93, if_neg (by omega)]
  · show 0 ≤ mNew p ru m 93 0 (m 15 0 71) ∧ mNew p ru m 93 0 (m 15 0 71) < m 15 0 13
    rw [mNew_93, if_pos rfl]
    exact hp
  · show mNew p ru m 100 0 x = if x = mNew p ru m 93 0 (m 15 0 71) ∧ m 100 0 x < 0 then m 15 0 71 else m 100 0 x
    rw [mNew_93, if_pos rfl]
    unfold mNew
    by_cases b : m 100 0 p ≥ 0
    · rw [if_pos b, rUp_grp (by decide), rUp_grp (by decide), rUp_grp (by decide), rUp_grp (by decide), rUp_grp (by decide), rUp_grp (by decide), rUp_grp (by decide), rUp_grp (by decide), rUp_grp (by decide), rUp_grp (by decide), rUp_grp (by decide), rUp_grp (by decide)]
      rw [if_neg (show ¬ (x = p ∧ m 100 0 x < 0) from fun z => by have := z.2; rw [z.1] at this; omega)]
    · rw [if_neg b, rUp_grp (by decide), rUp_in, rUp_grp (by decide), rUp_grp (by decide), rUp_grp (by decide), rUp_grp (by decide), rUp_grp (by decide), rUp_grp (by decide), rUp_grp (by decide), rUp_grp (by decide), rUp_grp (by decide), rUp_grp (by decide)]
      by_cases e : x = p
      · rw [if_pos e, if_pos (show x = p ∧ m 100 0 x < 0 from ⟨e, by rw [e]; omega⟩)]
      · rw [if_neg e, if_neg (fun z => e z.1)]
  · show mNew p ru m 101 0 x = if x = mNew p ru m 93 0 (m 15 0 71) then m 15 0 71 else m 101 0 x
    rw [mNew_93, if_pos rfl]
    unfold mNew
    by_cases b : m 100 0 p ≥ 0
    · rw [if_pos b, rUp_in, rUp_grp (by decide), rUp_grp (by decide), rUp_grp (by decide), rUp_grp (by decide), rUp_grp (by decide), rUp_grp (by decide), rUp_grp (by decide), rUp_grp (by decide), rUp_grp (by decide), rUp_grp (by decide), rUp_grp (by decide)]
    · rw [if_neg b, rUp_in, rUp_grp (by decide), rUp_grp (by decide), rUp_grp (by decide), rUp_grp (by decide), rUp_grp (by decide), rUp_grp (by decide), rUp_grp (by decide), rUp_grp (by decide), rUp_grp (by decide), rUp_grp (by decide), rUp_grp (by decide)]
  · show mNew p ru m 96 0 t = if t = m 15 0 71 then -1 else if t = m 101 0 (mNew p ru m 93 0 (m 15 0 71)) ∧ 0 ≤ m 100 0 (mNew p ru m 93 0 (m 15 0 71)) then m 15 0 71 else m 96 0 t
    rw [mNew_93, if_pos rfl]
    unfold mNew
    by_cases b : m 100 0 p ≥ 0
    · have lx := hl b
      rw [if_pos b, rUp_grp (by decide), rUp_in, rUp_grp (by decide), rUp_grp (by decide), rUp_grp (by decide), rUp_grp (by decide), rUp_grp (by decide), rUp_in, rUp_grp (by decide), rUp_grp (by decide), rUp_grp (by decide), rUp_grp (by decide)]
      by_cases e : t = m 15 0 71
      · rw [if_neg (show ¬ t = m 101 0 p by omega), if_pos e, if_pos e]
      · rw [if_neg (c := t = m 15 0 71) e, if_neg (c := t = m 15 0 71) e]
        by_cases e2 : t = m 101 0 p
        · rw [if_pos e2, if_pos (show t = m 101 0 p ∧ 0 ≤ m 100 0 p from ⟨e2, b⟩)]
        · rw [if_neg e2, if_neg (show ¬ (t = m 101 0 p ∧ 0 ≤ m 100 0 p) from fun z => e2 z.1)]
    · rw [if_neg b, rUp_grp (by decide), rUp_grp (by decide), rUp_grp (by decide), rUp_grp (by decide), rUp_grp (by decide), rUp_grp (by decide), rUp_grp (by decide), rUp_in, rUp_grp (by decide), rUp_grp (by decide), rUp_grp (by decide), rUp_grp (by decide)]
      by_cases e : t = m 15 0 71
      · rw [if_pos e, if_pos e]
      · rw [if_neg e, if_neg e, if_neg (show ¬ (t = m 101 0 p ∧ 0 ≤ m 100 0 p) from fun z => b z.2)]
theorem cR_cM {m : rHp} (h : cR m) (h2 : m 15 0 71 ≤ 2000) : cM m :=
  ⟨⟨h.1, h2⟩, h.2.1, fun p p0 p1 => h.2.2.1 p ⟨p0, p1⟩, h.2.2.2.1⟩
/-- the GROUNDS: the standing TUPLE of each ATOM -/
theorem en57_lp {p ru : Int} {m : rHp} (r0 : 0 ≤ ru) (hh : m 71 0 ru = 0) : ∀ (f : Nat) (x : Int) (g : rHp), (m 73 0 ru - x).toNat ≤ f → 0 ≤ x → x ≤ m 73 0 ru → g 97 0 (m 15 0 71) = cn (fun h => decide (m 77 0 (h + 8 * ru) = 0)) x →
    ∃ m_q, zLoop (en57 m) (0, [p, ru, x], g) = (0, 0, m_q) ∧ (∀ K, K ≠ 97 → K ≠ 98 → m_q K = g K) ∧ (∀ t, t ≠ m 15 0 71 → m_q 97 0 t = g 97 0 t) ∧ m_q 97 0 (m 15 0 71) = cn (fun h => decide (m 77 0 (h + 8 * ru) = 0)) (m 73 0 ru) ∧ (∀ j, (∀ h, x ≤ h → h < m 73 0 ru → m 77 0 (h + 8 * ru) = 0 → j ≠ cn (fun h => decide (m 77 0 (h + 8 * ru) = 0)) h + 8 * m 15 0 71) → m_q 98 0 j = g 98 0 j) ∧ ∀ h, x ≤ h → h < m 73 0 ru → m 77 0 (h + 8 * ru) = 0 → m_q 98 0 (cn (fun h => decide (m 77 0 (h + 8 * ru) = 0)) h + 8 * m 15 0 71) = m 104 0 h := by
  have st : ∀ (x : Int) (g : rHp), en57 m (0, [p, ru, x], g) = if x ≥ m 73 0 ru then .inr (0, 0, g) else if m 77 0 (x + 8 * ru) = 0 then .inl (0, [p, ru, x + 1], rUp (rUp g 98 0 (g 97 0 (m 15 0 71) + 8 * m 15 0 71) (m 104 0 x)) 97 0 (m 15 0 71) (g 97 0 (m 15 0 71) + 1)) else .inl (0, [p, ru, x + 1], g) := by
    intro x g
    unfold en57
    simp only [zLet, List.getD_cons_zero, List.getD_cons_succ, ↓reduceIte]
    rw [if_neg (show ¬ ru < 0 by omega), if_neg (show ¬ m 71 0 ru ≠ 0 from fun z => z hh)]
  intro f
  induction f with
  | zero =>
    intro x g hf x0 x1 h9
    refine ⟨g, zLoop_inr ((st x g).trans (if_pos (by omega))), fun _ _ _ => rfl, fun _ _ => rfl, by rw [h9, show x = m 73 0 ru by omega], fun _ _ => rfl, fun h h0 h1 => by omega⟩
  | succ f ih =>
    intro x g hf x0 x1 h9
    by_cases hx : x ≥ m 73 0 ru
    · exact ⟨g, zLoop_inr ((st x g).trans (if_pos hx)), fun _ _ _ => rfl, fun _ _ => rfl, by rw [h9, show x = m 73 0 ru by omega], fun _ _ => rfl, fun h h0 h1 => by omega⟩
    · have s0 := (st x g).trans (if_neg hx)
      have cs := cn_s (p := fun h => decide (m 77 0 (h + 8 * ru) = 0)) x0
      by_cases hk : m 77 0 (x + 8 * ru) = 0
      · rw [if_pos (show (fun h => decide (m 77 0 (h + 8 * ru) = 0)) x = true from decide_eq_true hk)] at cs
        rw [zLoop_inl (s0.trans (if_pos hk)), h9]
        obtain ⟨m_q, k1, k2, k3, k4, k5, k6⟩ := ih (x + 1) (rUp (rUp g 98 0 (cn (fun h => decide (m 77 0 (h + 8 * ru) = 0)) x + 8 * m 15 0 71) (m 104 0 x)) 97 0 (m 15 0 71) (cn (fun h => decide (m 77 0 (h + 8 * ru) = 0)) x + 1)) (by omega) (by omega) (by omega) (by rw [rUp_at, cs])
        have lt : ∀ h, x + 1 ≤ h → cn (fun h => decide (m 77 0 (h + 8 * ru) = 0)) x < cn (fun h => decide (m 77 0 (h + 8 * ru) = 0)) h := fun h hh => by
          have := cn_le (p := fun h => decide (m 77 0 (h + 8 * ru) = 0)) (g := x + 1) (x := h) (by omega) hh
          omega
        refine ⟨m_q, k1, fun K a b => by rw [k2 K a b, rUp_grp a, rUp_grp b], fun t ht => by rw [k3 t ht, rUp_ne (fun z => ht z.2.2), rUp_grp (by decide)], k4, fun j hj => ?_, fun h h0 h1 h2 => ?_⟩
        · rw [k5 j (fun h a b d => hj h (by omega) b d), rUp_grp (by decide), rUp_ne (fun z => hj x (Int.le_refl _) (by omega) hk z.2.2)]
        · by_cases e : h = x
          · rw [e, k5 _ (fun y a b d => by have := lt y a; omega), rUp_grp (by decide), rUp_at]
          · exact k6 h (by omega) h1 h2
      · rw [if_neg (show ¬ (fun h => decide (m 77 0 (h + 8 * ru) = 0)) x = true from fun z => hk (of_decide_eq_true z))] at cs
        rw [zLoop_inl (s0.trans (if_neg hk))]
        obtain ⟨m_q, k1, k2, k3, k4, k5, k6⟩ := ih (x + 1) g (by omega) (by omega) (by omega) (by rw [h9, cs]; omega)
        refine ⟨m_q, k1, k2, k3, k4, fun j hj => k5 j (fun h a b d => hj h (by omega) b d), fun h h0 h1 h2 => ?_⟩
        by_cases e : h = x
        · rw [e] at h2; exact absurd h2 hk
        · exact k6 h (by omega) h1 h2
theorem en57_no {p ru x : Int} {m g : rHp} (h : ru < 0 ∨ m 71 0 ru ≠ 0) : zLoop (en57 m) (0, [p, ru, x], g) = (0, 0, g) := by
  refine zLoop_inr ?_
  unfold en57
  simp only [zLet, List.getD_cons_zero, List.getD_cons_succ, ↓reduceIte]
  by_cases b : ru < 0
  · rw [if_pos b]
  · rw [if_neg b, if_pos (show m 71 0 ru ≠ 0 from h.resolve_left b)]
