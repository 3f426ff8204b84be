/-! ===== what is shown, through calls ===== -/
noncomputable def eqO (c c_q : rHp) : Prop := c_q 7 = c 7 ∧ c_q 39 = c 39
noncomputable def eqP (m m_q : rHp) : Prop := m_q 15 0 4 = m 15 0 4 ∧ m_q 60 = m 60
theorem eqO_rf {c : rHp} : eqO c c := ⟨rfl, rfl⟩
theorem eqP_rf {m : rHp} : eqP m m := ⟨rfl, rfl⟩
theorem oR_eq {c m c_q m_q : rHp} (h : oR c m) (hc : eqO c c_q) (hm : eqP m m_q) : oR c_q m_q := by
  unfold oR
  rw [hc.1, hc.2, hm.1, hm.2]
  exact h
noncomputable def maU (ms : Nat) : Bool := maO ms 7 && (!Nat.testBit ms (2048 + 39))
noncomputable def maV (ms : Nat) : Bool := (!Nat.testBit ms (128 * 15 + 4)) && (!Nat.testBit ms (2048 + 60))
theorem eqO_k {ms : Nat} (h : maU ms = true) {g g_q : rHp} (hk : ∀ (G : Nat) (k j : Int), ¬ rMdP ms G j → g_q G k j = g G k j) : eqO g g_q := by
  unfold maU at h
  simp only [Bool.and_eq_true, Bool.not_eq_true'] at h
  exact ⟨zKg (by decide) h.1 hk, zKa (by decide) h.2 hk⟩
theorem eqP_k {ms : Nat} (h : maV ms = true) {g g_q : rHp} (hk : ∀ (G : Nat) (k j : Int), ¬ rMdP ms G j → g_q G k j = g G k j) : eqP g g_q := by
  unfold maV at h
  simp only [Bool.and_eq_true, Bool.not_eq_true'] at h
  exact ⟨zKo (by decide) h.1 hk 0, zKa (by decide) h.2 hk⟩
/-! ===== constants and NAMES, through calls ===== -/
noncomputable def eqN (c c_q : rHp) : Prop := c_q 3 0 1 = c 3 0 1 ∧ c_q 46 = c 46
theorem eqN_C {c c_q : rHp} (h : eqC c c_q) : eqN c c_q := ⟨h.1.2.1, h.2 46 (by decide)⟩
theorem pcN_eq {c c_q : rHp} (h : pcN c) (hc : eqN c c_q) : pcN c_q := by
  unfold pcN
  rw [hc.1, hc.2]
  exact h
noncomputable def maN (ms : Nat) : Bool := (!Nat.testBit ms (128 * 3 + 1)) && (!Nat.testBit ms (2048 + 46))
theorem eqN_k {ms : Nat} (h : maN ms = true) {g g_q : rHp} (hk : ∀ (G : Nat) (k j : Int), ¬ rMdP ms G j → g_q G k j = g G k j) : eqN g g_q := by
  unfold maN at h
  simp only [Bool.and_eq_true, Bool.not_eq_true'] at h
  exact ⟨zKo (by decide) h.1 hk 0, zKa (by decide) h.2 hk⟩
theorem nE_fr {c m c_q m_q : rHp} (h : nE c m) (hc : c 3 0 1 ≤ c_q 3 0 1) (hm : eqS m m_q) : nE c_q m_q := by
  intro t k t0 t1 k0 k1
  rw [hm.2.1] at t1
  have := h t k t0 t1 k0 k1
  rw [hm.1 99 (by decide)]
  omega
theorem eqN_le {c c_q : rHp} (h : eqN c c_q) : c 3 0 1 ≤ c_q 3 0 1 := by
  rw [h.1]
  exact Int.le_refl _
theorem hF1_n {c : rHp} : fN c (hF1 c) := by
  unfold hF1
  split
  · exact fN_up (fN_tr (show fN c (qUc 1 c) from fn111_nq (x := [1])) fn146_nq) (by decide)
  · exact fN_up fN_refl (by decide)
theorem hA1_n {c : rHp} : fN c (hA1 c) := by
  unfold hA1
  split
  · exact fN_up (fN_tr (show fN c (qUc 2 c) from fn111_nq (x := [2])) fn159_nq) (by decide)
  · exact fN_up fN_refl (by decide)
theorem tell_n {B v : Int} {o : Nat} {x : List Int} {c c_q m_q : rHp} (h : JJ B c_q m_q) (hp : pcN c) (l1 : sn166 x c o v c_q) : pcN c_q ∧ c 3 0 1 ≤ c_q 3 0 1 := by
  have l1 : (o, v, c_q) = fn166 [] c := l1
  have e1 : c_q = (fn166 [] c).2.2 := congrArg (fun r : zR => r.2.2) l1
  have n := fn166_nq (x := []) (g0 := c)
  rw [← e1] at n
  obtain ⟨n1, n2, n3⟩ := n (mk40 h.2.1)
  exact ⟨n2 hp, n3⟩
theorem untell_n {B v : Int} {o : Nat} {x : List Int} {c c_q m_q : rHp} (h : JJ B c_q m_q) (hp : pcN c) (l1 : sn167 x c o v c_q) : pcN c_q ∧ c 3 0 1 ≤ c_q 3 0 1 := by
  have l1 : (o, v, c_q) = fn167 [] c := l1
  have e1 : c_q = (fn167 [] c).2.2 := congrArg (fun r : zR => r.2.2) l1
  have n := fn167_nq (x := []) (g0 := c)
  rw [← e1] at n
  obtain ⟨n1, n2, n3⟩ := n (mk40 h.2.1)
  exact ⟨n2 hp, n3⟩
theorem find_n {B : Int} {c c_q m_q : rHp} (h : JJ B c_q m_q) (hp : pcN c) (l1 : eqC (hF1 c) c_q) : pcN c_q ∧ c 3 0 1 ≤ c_q 3 0 1 := by
  obtain ⟨n1, n2, n3⟩ := hF1_n (c := c) (by rw [← l1.2 40 (by decide)]; exact mk40 h.2.1)
  exact ⟨pcN_eq (n2 hp) (eqN_C l1), by rw [l1.1.2.1]; exact n3⟩
theorem ask_n {B v : Int} {o : Nat} {x : List Int} {c m c_q : rHp} (h : JK B c m) (hp : pcN c) (hB : B ≤ 10239) (l1 : sn275 x c o v c_q) (k40 : c_q 40 = c 40) : pcN c_q ∧ c 3 0 1 ≤ c_q 3 0 1 ∧ (c_q 0 0 7 ≠ 0 → c 0 0 7 ≠ 0) := by
  have e5 := ask_275 l1
  obtain ⟨k1_q, k2_q⟩ := ask_cls (c := c) rfl (by rw [← e5 40 (by decide), k40]; exact mk40 h.1.2.1)
  have k1 : ∀ K : Nat, K = 3 ∨ K = 46 ∨ K = 40 → c_q K = hA1 c K := fun K q => by
    rw [e5 K (by omega)]
    refine k1_q K (fun w => ?_)
    simp only [List.mem_cons, List.not_mem_nil, or_false] at w
    omega
  obtain ⟨n1, n2, n3⟩ := hA1_n (c := c) (by rw [← k1 40 (by decide), k40]; exact mk40 h.1.2.1)
  refine ⟨pcN_eq (n2 hp) ⟨by rw [k1 3 (by decide)], k1 46 (by decide)⟩, by rw [k1 3 (by decide)]; exact n3, fun w => ?_⟩
  have k2 : c_q 0 0 7 = hA1 c 0 0 7 := by rw [e5 0 (by decide)]; exact k2_q
  rw [k2] at w
  exact (yFA_flag ((ask_two h.1.1 hB).2 h.1.2.2).2 w).1
/-! ===== show and word, by both ===== -/
theorem shN_of {B : Int} {c m : rHp} (h : JJ B c m) : shN c m := ⟨h.2.1.2.1, fun p p0 p1 => by
  have P := h.1.2.2.2.2.1
  unfold qP at P
  rw [show rUp m 15 0 14 (m 15 0 13) 15 0 14 = m 15 0 13 from rUp_at, rUp_grp (show (64 : Nat) ≠ 15 by decide), rUp_grp (show (65 : Nat) ≠ 15 by decide), rUp_grp (show (66 : Nat) ≠ 15 by decide)] at P
  exact P.2.2.2 p p0 p1⟩
/-- between calls -/
noncomputable def JO (B : Int) (c m : rHp) : Prop := JK B c m ∧ (c 0 0 7 ≠ 0 → nE c m) ∧ oR c m ∧ pcN c
noncomputable def lO (i : Int) (g : rHp) : Prop := ∃ B : Int, 6 * B ≤ 20 * i ∧ JO B g g
theorem show_row {B i v v_q : Int} {o o_q : Nat} {x y : List Int} {c m c_q m_q : rHp} (h : JO B c m) (h66 : ∀ p, 0 ≤ m 66 0 p ∧ m 66 0 p ≤ 4) (l1 : sn273 (i :: x) c o v c_q) (l2 : sn89 (i :: y) m o_q v_q m_q) : (v = m_q 15 0 0 ∧ (v = 0 → c_q 112 0 0 = v_q)) ∧ oR c_q m_q := by
  have l1 : (o, v, c_q) = fn273 [i] c := l1
  have l2 : (o_q, v_q, m_q) = fn89 [i] m := l2
  obtain ⟨hK, hN, hO, -⟩ := h
  have hE : c 0 0 7 ≠ 0 → c 4 0 7 = m 15 0 71 ∧ ∀ t, 0 ≤ t → t < m 15 0 71 → c 28 0 t = m 93 0 t ∧ (0 ≤ m 93 0 t ∧ m 93 0 t < m 15 0 13) ∧ m 66 0 (m 93 0 t) ≤ 4 ∧ 0 ≤ m 66 0 (m 93 0 t) ∧ ∀ k, 0 ≤ k → k < 4 → c 27 0 (k + 4 * t) = m 99 0 (k + 4 * t) ∧ nOk c (m 99 0 (k + 4 * t)) := fun d => by
    obtain ⟨hT, hX, hv, hl, h8⟩ := hK.2 d
    have hn := hN d
    refine ⟨hT.1, fun t t0 t1 => ?_⟩
    obtain ⟨a1, a2⟩ := hT.2.2.2 t t0 (by rw [hT.1]; exact t1)
    have pr := hT.2.2.1.2.1 t t0 t1
    refine ⟨a1, pr, (h66 _).2, (h66 _).1, fun k k0 k1 => ⟨a2 k k0 k1, hv t k t0 t1 k0 k1, ?_⟩⟩
    have := hn t k t0 t1 k0 k1
    omega
  obtain ⟨o1, w1, w2, q, c1, m1, p1, p2, p3, p4, p5, hr⟩ := show_two (i := i) hK.1.2.2 (shN_of hK.1) hE hO
  rw [p2] at l2
  have em : m_q = m1 := congrArg (fun r : zR => r.2.2) l2
  have ev : v_q = w2 := congrArg (fun r : zR => r.2.1) l2
  have e0 : m_q 15 0 0 = q := by rw [em]; exact p3
  unfold fn273 at l1
  simp only [zLet, List.getD_cons_zero, p1] at l1
  rcases hr with ⟨a1, a2, a3⟩ | ⟨a1, a2⟩ | ⟨a1, a2⟩
  · rw [if_pos a1] at l1
    have e1 : v = 0 := congrArg (fun r : zR => r.2.1) l1
    have e2 : c_q = rUp c1 112 0 0 w1 := congrArg (fun r : zR => r.2.2) l1
    refine ⟨⟨by rw [e1, e0, a2], fun _ => by rw [e2, rUp_at, ev]; exact a3⟩, ?_⟩
    rw [e2, em]
    exact oR_eq p4 ⟨rUp_grp (by decide), rUp_grp (by decide)⟩ eqP_rf
  · rw [if_neg (by omega), if_neg (by omega)] at l1
    have e1 : v = 1 := congrArg (fun r : zR => r.2.1) l1
    have e2 : c_q = c1 := congrArg (fun r : zR => r.2.2) l1
    exact ⟨⟨by rw [e1, e0, a2], fun z => by omega⟩, by rw [e2, em]; exact p4⟩
  · rw [if_neg (by omega), if_pos a1] at l1
    have e1 : v = 2 := congrArg (fun r : zR => r.2.1) l1
    have e2 : c_q = c1 := congrArg (fun r : zR => r.2.2) l1
    exact ⟨⟨by rw [e1, e0, a2], fun z => by omega⟩, by rw [e2, em]; exact p4⟩
theorem word_cmp {i v v_q : Int} {o o_q : Nat} {x y : List Int} {c m c_q m_q : rHp} (h : oR c m) (l1 : sn278 (i :: x) c o v c_q) (l2 : sn86 (i :: y) m o_q v_q m_q) : v = m_q 15 0 0 ∧ (v = 0 → c_q 112 0 0 = v_q) := by
  have l1 : (o, v, c_q) = fn278 [i] c := l1
  have l2 : (o_q, v_q, m_q) = fn86 [i] m := l2
  obtain ⟨o1, w1, w2, k, p1, p2, hr⟩ := word_both (i := i) h
  rw [p2] at l2
  have em : m_q = rUp m 15 0 0 k := congrArg (fun r : zR => r.2.2) l2
  have ev : v_q = w2 := congrArg (fun r : zR => r.2.1) l2
  have e0 : m_q 15 0 0 = k := by rw [em, rUp_at]
  unfold fn278 at l1
  simp only [zLet, List.getD_cons_zero, p1] at l1
  rcases hr with ⟨a1, a2, a3⟩ | ⟨a1, a2⟩
  · rw [if_pos a1] at l1
    have e1 : v = 0 := congrArg (fun r : zR => r.2.1) l1
    have e2 : c_q = rUp c 112 0 0 w1 := congrArg (fun r : zR => r.2.2) l1
    exact ⟨by rw [e1, e0, a2], fun _ => by rw [e2, rUp_at, ev]; exact a3⟩
  · rw [if_neg (by omega)] at l1
    have e1 : v = 1 := congrArg (fun r : zR => r.2.1) l1
    exact ⟨by rw [e1, e0, a2], fun q => by omega⟩
