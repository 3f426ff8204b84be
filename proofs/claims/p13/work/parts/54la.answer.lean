/-! ===== answer, by both ===== -/
set_option maxRecDepth 100000 in
theorem qBt_01f : ∀ (k : Fin 256) (v : Fin 8), qBt (k.val : Int) (v.val : Int) = 0 ∨ qBt (k.val : Int) (v.val : Int) = 1 := by decide +kernel
theorem qBt_01 {k v : Int} (hk : qKr k) (hv : qVr v) : qBt k v = 0 ∨ qBt k v = 1 := by
  unfold qKr at hk
  unfold qVr at hv
  have := qBt_01f ⟨k.toNat, by omega⟩ ⟨v.toNat, by omega⟩
  rw [show ((k.toNat : Nat) : Int) = k by omega, show ((v.toNat : Nat) : Int) = v by omega] at this
  exact this
theorem answer_two {c m : rHp} {i k : Int} (h : aR c m) : ∃ o v v_q q, fn176 [i, k] c = (o, v, c) ∧ fn85 [i, k] m = (0, v_q, rUp m 15 0 0 q) ∧ ((o = 0 ∧ q = 0 ∧ v = v_q) ∨ (o = 1 ∧ q = 1)) := by
  obtain ⟨a1, a2, a3, a4⟩ := h
  have f100 : ∀ (a b : Int) (g : rHp), (fn100 [a, b] g).2.2 = g := fun a b g => by
    unfold fn100
    simp only [zLet, List.getD_cons_zero, List.getD_cons_succ]
    repeat' split
    all_goals rfl
  have no : fn176 [i, k] c = (1, 0, c) → fn85 [i, k] m = (0, 0, rUp m 15 0 0 1) → ∃ o v v_q q, fn176 [i, k] c = (o, v, c) ∧ fn85 [i, k] m = (0, v_q, rUp m 15 0 0 q) ∧ ((o = 0 ∧ q = 0 ∧ v = v_q) ∨ (o = 1 ∧ q = 1)) := fun x y => ⟨1, 0, 0, 1, x, y, Or.inr ⟨rfl, rfl⟩⟩
  -- the class, where the WAY is one that is kept
  have cl : 0 ≤ i → i < m 15 0 93 → i < 100 → fn176 [i, k] c = if k < 0 then (1, 0, c) else if k ≥ 8 then (1, 0, c) else if qBt (c 8 (c 0 0 5) 2) k ≠ 0 then (0, (fn173 [c 41 (c 0 0 5) (k + 8 * i)] c).2.1, (fn173 [c 41 (c 0 0 5) (k + 8 * i)] c).2.2) else (1, 0, c) := fun i0 i1 i2 => by
    unfold fn176
    simp only [zLet, List.getD_cons_zero, List.getD_cons_succ, f100, a2]
    rw [if_neg (show ¬ i < 0 by omega)]
    by_cases w : 0 ≤ -m 15 0 93 + 100
    · rw [if_pos w, if_pos i1]
      rfl
    · rw [if_neg w, if_pos i2]
      rfl
  have rf : 0 ≤ i → i < m 15 0 93 → i < 100 → fn85 [i, k] m = if k < 0 then (0, 0, rUp m 15 0 0 1) else if k > 7 then (0, 0, rUp m 15 0 0 1) else if qBt (m 15 0 95) k ≠ 0 then (0, (fn80 [m 110 0 (k + 8 * i)] (rUp m 15 0 0 0)).2.1, (fn80 [m 110 0 (k + 8 * i)] (rUp m 15 0 0 0)).2.2) else (0, 0, rUp m 15 0 0 1) := fun i0 i1 i2 => by
    unfold fn85
    simp only [zLet, List.getD_cons_zero, List.getD_cons_succ, fn1_eq]
    rw [if_neg (show ¬ i < 0 by omega), if_neg (show ¬ i ≥ m 15 0 93 by omega), if_neg (show ¬ i ≥ 100 by omega)]
    rfl
  by_cases i0 : i < 0
  · refine no ?_ ?_
    · unfold fn176
      simp only [zLet, List.getD_cons_zero]
      rw [if_pos i0]
    · unfold fn85
      simp only [zLet, List.getD_cons_zero, fn1_eq]
      rw [if_pos i0]
  by_cases i1 : i < m 15 0 93
  · by_cases i2 : i < 100
    · have e1 := cl (by omega) i1 i2
      have e2 := rf (by omega) i1 i2
      obtain ⟨b1, b2, b3⟩ := a4 (by omega)
      by_cases k0 : k < 0
      · rw [if_pos k0] at e1 e2
        exact no e1 e2
      rw [if_neg k0] at e1 e2
      by_cases k1 : k ≥ 8
      · rw [if_pos k1] at e1
        rw [if_pos (show k > 7 by omega)] at e2
        exact no e1 e2
      rw [if_neg k1] at e1
      rw [if_neg (show ¬ k > 7 by omega)] at e2
      have hv : qVr k := ⟨by omega, by omega⟩
      rw [b1] at e1
      by_cases z : qBt (m 15 0 95) k ≠ 0
      · rw [if_pos z] at e1 e2
        have z1 : qBt (m 15 0 95) k = 1 := by
          rcases qBt_01 b2 hv with w | w
          · exact absurd w z
          · exact w
        obtain ⟨v1, v2⟩ := b3 i k (by omega) i1 i2 hv z1
        obtain ⟨x, x1, x2⟩ := told_two v2 c (rUp m 15 0 0 0)
        rw [v1, x1] at e1
        rw [x2] at e2
        exact ⟨0, x, x, 0, e1, e2, Or.inl ⟨rfl, rfl, rfl⟩⟩
      · rw [if_neg z] at e1 e2
        exact no e1 e2
    · refine no ?_ ?_
      · unfold fn176
        simp only [zLet, List.getD_cons_zero, List.getD_cons_succ, f100, a2]
        rw [if_neg i0, if_neg (show ¬ 0 ≤ -m 15 0 93 + 100 by omega), if_neg i2]
      · unfold fn85
        simp only [zLet, List.getD_cons_zero, List.getD_cons_succ, fn1_eq]
        rw [if_neg i0, if_neg (show ¬ i ≥ m 15 0 93 by omega), if_pos (show i ≥ 100 by omega)]
  · refine no ?_ ?_
    · unfold fn176
      simp only [zLet, List.getD_cons_zero, List.getD_cons_succ, f100, a2]
      rw [if_neg i0]
      by_cases w : 0 ≤ -m 15 0 93 + 100
      · rw [if_pos w, if_neg i1]
      · rw [if_neg w, if_neg (show ¬ i < 100 by omega)]
    · unfold fn85
      simp only [zLet, List.getD_cons_zero, List.getD_cons_succ, fn1_eq]
      rw [if_neg i0, if_pos (show i ≥ m 15 0 93 by omega)]
/-! ===== the answers through calls ===== -/
noncomputable def eqA (c c_q : rHp) : Prop := c_q 8 = c 8 ∧ c_q 41 = c 41 ∧ c_q 0 0 5 = c 0 0 5 ∧ c_q 0 0 6 = c 0 0 6
noncomputable def eqB (m m_q : rHp) : Prop := m_q 15 0 93 = m 15 0 93 ∧ m_q 15 0 95 = m 15 0 95 ∧ m_q 110 = m 110
theorem eqA_rf {c : rHp} : eqA c c := ⟨rfl, rfl, rfl, rfl⟩
theorem eqB_rf {m : rHp} : eqB m m := ⟨rfl, rfl, rfl⟩
theorem aR_eq {c m c_q m_q : rHp} (h : aR c m) (hc : eqA c c_q) (hm : eqB m m_q) : aR c_q m_q :=
  aR_fr h (fun j w => by
    rcases w with rfl | rfl
    · exact hc.2.2.1
    · exact hc.2.2.2) (by rw [hc.1]) (by rw [hc.2.1]) (fun j w => by
    rcases w with rfl | rfl
    · exact hm.1
    · exact hm.2.1) hm.2.2
noncomputable def maA (ms : Nat) : Bool := maO ms 8 && (!Nat.testBit ms (2048 + 41)) && (!Nat.testBit ms (128 * 0 + 5)) && (!Nat.testBit ms (128 * 0 + 6))
noncomputable def maB (ms : Nat) : Bool := (!Nat.testBit ms (128 * 15 + 93)) && (!Nat.testBit ms (128 * 15 + 95)) && (!Nat.testBit ms (2048 + 110))
theorem eqA_k {ms : Nat} (h : maA ms = true) {g g_q : rHp} (hk : ∀ (G : Nat) (k j : Int), ¬ rMdP ms G j → g_q G k j = g G k j) : eqA g g_q := by
  unfold maA at h
  simp only [Bool.and_eq_true, Bool.not_eq_true'] at h
  obtain ⟨⟨⟨h1, h2⟩, h3⟩, h4⟩ := h
  exact ⟨zKg (by decide) h1 hk, zKa (by decide) h2 hk, zKo (by decide) h3 hk 0, zKo (by decide) h4 hk 0⟩
theorem eqB_k {ms : Nat} (h : maB ms = true) {g g_q : rHp} (hk : ∀ (G : Nat) (k j : Int), ¬ rMdP ms G j → g_q G k j = g G k j) : eqB g g_q := by
  unfold maB at h
  simp only [Bool.and_eq_true, Bool.not_eq_true'] at h
  obtain ⟨⟨h1, h2⟩, h3⟩ := h
  exact ⟨zKo (by decide) h1 hk 0, zKo (by decide) h2 hk 0, zKa (by decide) h3 hk⟩
theorem tell_aR {B v v_q : Int} {o o_q : Nat} {x y : List Int} {c m c_q m_q : rHp} (h : JJ B c m) (ha : aR c m) (hB : B ≤ 10239) (l1 : sn166 x c o v c_q) (l2 : sn51 y m o_q v_q m_q) (h95 : m_q 15 0 95 = m 15 0 95) : aR c_q m_q := by
  have l1 : (o, v, c_q) = fn166 [] c := l1
  have l2 : (o_q, v_q, m_q) = fn51 [] m := l2
  obtain ⟨v1, c1, v2, m1, p1, p2, hR, hy, hA⟩ := tell_two h.1 hB
  rw [p1] at l1
  rw [p2] at l2
  have e1 : c_q = c1 := congrArg (fun r : zR => r.2.2) l1
  have e2 : m_q = m1 := congrArg (fun r : zR => r.2.2) l2
  subst e1
  subst e2
  exact aR_A ha (yFA_fin hA) h95
theorem untell_aR {B v v_q : Int} {o o_q : Nat} {x y : List Int} {c m c_q m_q : rHp} (h : JJ B c m) (ha : aR c m) (hB : B ≤ 10239) (l1 : sn167 x c o v c_q) (l2 : sn52 y m o_q v_q m_q) (h95 : m_q 15 0 95 = m 15 0 95) : aR c_q m_q := by
  have l1 : (o, v, c_q) = fn167 [] c := l1
  have l2 : (o_q, v_q, m_q) = fn52 [] m := l2
  obtain ⟨v1, c1, v2, m1, p1, p2, hR, hy, hA⟩ := untell_two h.1 hB
  rw [p1] at l1
  rw [p2] at l2
  have e1 : c_q = c1 := congrArg (fun r : zR => r.2.2) l1
  have e2 : m_q = m1 := congrArg (fun r : zR => r.2.2) l2
  subst e1
  subst e2
  exact aR_A ha hA h95
theorem drop_aR {B r v v_q : Int} {o o_q : Nat} {x y : List Int} {c m c_q m_q : rHp} (h : JJ B c m) (ha : aR c m) (l1 : sn269 (r :: x) c o v c_q) (l2 : sn54 (r :: y) m o_q v_q m_q) (h95 : m_q 15 0 95 = m 15 0 95) : aR c_q m_q := by
  have l1 : (o, v, c_q) = fn269 [r] c := l1
  have l2 : (o_q, v_q, m_q) = fn54 [r] m := l2
  have e1 : c_q = (fn269 [r] c).2.2 := congrArg (fun r : zR => r.2.2) l1
  have e2 : m_q = (fn54 [r] m).2.2 := congrArg (fun r : zR => r.2.2) l2
  have key : ∀ c1 : rHp, (∃ o1 w, fn169 [r] c = (o1, w, c1)) → ∀ K : Nat, K ≠ 112 → (fn269 [r] c).2.2 K = c1 K := by
    rintro c1 ⟨o1, w, p1⟩ K q
    unfold fn269
    simp only [zLet, List.getD_cons_zero, p1]
    split
    · exact rUp_grp q
    · rfl
  rcases drop_two (r := r) h.1 with ⟨w, c1, m1, p1, p2, _, hR, hy, hA⟩ | ⟨m1, p1, p2, _, hR, hy, hA⟩
  · have k := key c1 ⟨_, _, p1⟩
    rw [p2] at e2
    have e2 : m_q = m1 := e2
    subst e2
    rw [e1]
    exact aR_eq (aR_A ha hA h95) ⟨k 8 (by decide), k 41 (by decide), by rw [k 0 (by decide)], by rw [k 0 (by decide)]⟩ eqB_rf
  · have k := key c ⟨_, _, p1⟩
    rw [p2] at e2
    have e2 : m_q = m1 := e2
    subst e2
    rw [e1]
    exact aR_eq (aR_A ha hA h95) ⟨k 8 (by decide), k 41 (by decide), by rw [k 0 (by decide)], by rw [k 0 (by decide)]⟩ eqB_rf
/-- behind a run nothing is answered -/
theorem run_aR {v v_q : Int} {o o_q : Nat} {x y : List Int} {c m c_q m_q : rHp} (ha : aR c m) (l1 : sn270 x c o v c_q) (l2 : sn78 y m o_q v_q m_q) (h5 : c_q 0 0 5 = c 0 0 5) (h6 : c_q 0 0 6 = c 0 0 6) (zc : ∃ j, c_q 40 0 j ≠ 0) (zm : ∃ j, m_q 40 0 j ≠ 0) : aR c_q m_q := by
  have l1 : (o, v, c_q) = fn270 [] c := l1
  have l2 : (o_q, v_q, m_q) = fn78 [] m := l2
  have e1 : c_q = (fn270 [] c).2.2 := congrArg (fun r : zR => r.2.2) l1
  have e2 : m_q = (fn78 [] m).2.2 := congrArg (fun r : zR => r.2.2) l2
  have k : ∀ K : Nat, K ≠ 112 → c_q K = (fn265 [] c).2.2 K := fun K q => by
    rw [e1]
    unfold fn270
    simp only [zLet]
    split
    · exact rUp_grp q
    · split
      · rfl
      · split <;> rfl
  have r := fn78_rq (x := []) (g0 := m)
  rw [← l2] at r
  have r : (∃ j, m_q 40 0 j ≠ 0) → m_q 40 = m 40 ∧ m_q 15 0 93 = 0 ∧ (m_q 15 0 59 = 0 → ∀ j, j = 74 ∨ j = 75 → m_q 15 0 j = m 15 0 j) := r
  obtain ⟨r1, r2, r3⟩ := r zm
  rw [k 40 (by decide)] at zc
  obtain ⟨q1, q2⟩ := fn265_8 (x := []) (g0 := c) zc
  refine ⟨by rw [h5, h6]; exact ha.1, ?_, by rw [r2]; exact Int.le_refl _, fun w => absurd r2 w⟩
  rw [h5, k 8 (by decide), q2, r2]
  exact (fn163_8 c).2.2.1
/-- ask, by both, and what is answered -/
theorem ask_aR {B v v_q : Int} {o o_q : Nat} {x y : List Int} {c m c_q m_q : rHp} (h : JK B c m) (ha : aR c m) (hB : B ≤ 10239) (l1 : sn275 x c o v c_q) (l2 : sn91 y m o_q v_q m_q) (zc : ∃ j, c_q 40 0 j ≠ 0) (zm : ∃ j, m_q 40 0 j ≠ 0) : aR c_q m_q := by
  have e5 := ask_275 l1
  have l2 : (o_q, v_q, m_q) = fn91 [] m := l2
  obtain ⟨o1, w, w_q, c1, m1, p1, p2, hr⟩ := ask_both h.1 hB h.2 ha
  rw [p2] at l2
  have e2 : m_q = m1 := congrArg (fun r : zR => r.2.2) l2
  subst e2
  rw [p1] at e5
  have e5 : ∀ K : Nat, K ≠ 112 → c_q K = c1 K := e5
  rw [e5 40 (by decide)] at zc
  exact aR_eq (hr zc zm).1 ⟨e5 8 (by decide), e5 41 (by decide), by rw [e5 0 (by decide)], by rw [e5 0 (by decide)]⟩ eqB_rf
theorem answer_cmp {i w v v_q : Int} {o o_q : Nat} {x y : List Int} {c m c_q m_q : rHp} (h : aR c m) (l1 : sn276 (i :: w :: x) c o v c_q) (l2 : sn85 (i :: w :: y) m o_q v_q m_q) : v = m_q 15 0 0 ∧ (v = 0 → c_q 112 0 0 = v_q) := by
  have l1 : (o, v, c_q) = fn276 [i, w] c := l1
  have l2 : (o_q, v_q, m_q) = fn85 [i, w] m := l2
  obtain ⟨o1, w1, w2, k, p1, p2, hr⟩ := answer_two (i := i) (k := w) h
  rw [p2] at l2
  have em : m_q = rUp m 15 0 0 k := congrArg (fun r : zR => r.2.2) l2
  have ev : v_q = w2 := congrArg (fun r : zR => r.2.1) l2
  have e0 : m_q 15 0 0 = k := by rw [em, rUp_at]
  unfold fn276 at l1
  simp only [zLet, List.getD_cons_zero, List.getD_cons_succ, p1] at l1
  rcases hr with ⟨a1, a2, a3⟩ | ⟨a1, a2⟩
  · rw [if_pos a1] at l1
    have e1 : v = 0 := congrArg (fun r : zR => r.2.1) l1
    have e2 : c_q = rUp c 112 0 0 w1 := congrArg (fun r : zR => r.2.2) l1
    exact ⟨by rw [e1, e0, a2], fun _ => by rw [e2, rUp_at, ev]; exact a3⟩
  · rw [if_neg (by omega)] at l1
    have e1 : v = 1 := congrArg (fun r : zR => r.2.1) l1
    exact ⟨by rw [e1, e0, a2], fun q => by omega⟩
/-- between calls -/
noncomputable def JA (B : Int) (c m : rHp) : Prop := JK B c m ∧ aR c m
noncomputable def lJA (i : Int) (g : rHp) : Prop := ∃ B : Int, 6 * B ≤ 20 * i ∧ JA B g g
noncomputable def sb91 : zSpc := fun x g o v gz => sn91 x g o v gz ∧ sr91 x g o v gz
