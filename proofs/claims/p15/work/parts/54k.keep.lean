/-! ===== what a run has left is kept ===== -/
noncomputable def lTC : List Nat := [4, 18, 27, 28, 29, 30, 31, 32, 47, 48, 49, 50, 51, 52, 53, 54, 55]
noncomputable def lTM : List Nat := [92, 93, 94, 95, 96, 97, 98, 99, 100, 101]
noncomputable def eqT (c c_q : rHp) : Prop := (∀ K : Nat, K ∈ lTC → c_q K = c K) ∧ c_q 1 0 8 = c 1 0 8
noncomputable def eqS (m m_q : rHp) : Prop := (∀ K : Nat, K ∈ lTM → m_q K = m K) ∧ m_q 15 0 71 = m 15 0 71 ∧ m_q 15 0 61 = m 15 0 61
theorem eqT_rf {c : rHp} : eqT c c := ⟨fun _ _ => rfl, rfl⟩
theorem eqS_rf {m : rHp} : eqS m m := ⟨fun _ _ => rfl, rfl, rfl⟩
theorem eqT_tr {a b c : rHp} (h : eqT a b) (k : eqT b c) : eqT a c := ⟨fun K z => (k.1 K z).trans (h.1 K z), k.2.trans h.2⟩
theorem eqS_tr {a b c : rHp} (h : eqS a b) (k : eqS b c) : eqS a c := ⟨fun K z => (k.1 K z).trans (h.1 K z), k.2.1.trans h.2.1, k.2.2.trans h.2.2⟩
noncomputable def tX1 (c m : rHp) : Prop := ∀ t, 0 ≤ t → t < m 15 0 71 → c 29 0 t = m 94 0 t ∧ c 30 0 t = m 95 0 t ∧ c 32 0 t = m 97 0 t ∧ (0 ≤ c 32 0 t ∧ c 32 0 t ≤ 8) ∧ ∀ k, 0 ≤ k → k < c 32 0 t → c 31 0 (k + 8 * t) = m 98 0 (k + 8 * t)
/-- what a run has left -/
noncomputable def yE1 (c m : rHp) : Prop := tT c m ∧ tX1 c m ∧ (∀ t k, 0 ≤ t → t < m 15 0 71 → 0 ≤ k → k < 4 → vOk 1048577 (m 99 0 (k + 4 * t))) ∧ (∀ p, 0 ≤ p → p < m 15 0 13 → c 18 0 p = m 92 0 p) ∧ c 1 0 8 = m 15 0 61
theorem vOk_M {N v : Int} (h : vOk N v) : vOk 1048577 v := by
  unfold vOk at h ⊢
  omega
/-- the NAMES in TUPLES are known -/
noncomputable def nE (c m : rHp) : Prop := ∀ t k, 0 ≤ t → t < m 15 0 71 → 0 ≤ k → k < 4 → m 99 0 (k + 4 * t) < 1099511627776 + c 3 0 1
theorem yE1_of {N : Int} {c m : rHp} (h : yE N c m) : yE1 c m := ⟨h.1, fun t t0 t1 => (h.2.1.2 t t0 t1).1, fun t k t0 t1 k0 k1 => vOk_M (h.2.2.1 t k t0 t1 k0 k1), h.2.2.2.1, h.2.2.2.2.1⟩
theorem yE1_fr {c m c_q m_q : rHp} (h : yE1 c m) (hc : eqT c c_q) (hm : eqS m m_q) (h13 : m_q 15 0 13 = m 15 0 13) : yE1 c_q m_q := by
  obtain ⟨h1, h2, h3, h4, h5⟩ := h
  obtain ⟨c1, c2⟩ := hc
  obtain ⟨m1, m2, m3⟩ := hm
  refine ⟨tT_fr h1 (fun K z => c1 K ?_) (fun K z => m1 K ?_) m2 h13, ?_, ?_, ?_, by rw [c2, m3]; exact h5⟩
  · unfold lTC
    simp only [List.mem_cons, List.not_mem_nil, or_false]
    omega
  · unfold lTM
    simp only [List.mem_cons, List.not_mem_nil, or_false]
    omega
  · unfold tX1 at h2 ⊢
    rw [c1 29 (by decide), c1 30 (by decide), c1 31 (by decide), c1 32 (by decide), m1 94 (by decide), m1 95 (by decide), m1 97 (by decide), m1 98 (by decide), m2]
    exact h2
  · rw [m1 99 (by decide), m2]; exact h3
  · rw [c1 18 (by decide), m1 92 (by decide), h13]; exact h4
noncomputable def maT (ms : Nat) : Bool := (!Nat.testBit ms (128 * 1 + 8)) && maO ms 4 && [18, 27, 28, 29, 30, 31, 32, 47, 48, 49, 50, 51, 52, 53, 54, 55].all (fun G => !Nat.testBit ms (2048 + G))
noncomputable def maS (ms : Nat) : Bool := (!Nat.testBit ms (128 * 15 + 71)) && (!Nat.testBit ms (128 * 15 + 61)) && lTM.all (fun G => !Nat.testBit ms (2048 + G))
theorem eqT_k {ms : Nat} (h : maT ms = true) {g g_q : rHp} (hk : ∀ (G : Nat) (k j : Int), ¬ rMdP ms G j → g_q G k j = g G k j) : eqT g g_q := by
  unfold maT at h
  simp only [Bool.and_eq_true, Bool.not_eq_true'] at h
  obtain ⟨⟨h1, h2⟩, h3⟩ := h
  refine ⟨fun G z => ?_, zKo (by decide) h1 hk 0⟩
  unfold lTC at z
  by_cases e4 : G = 4
  · rw [e4]; exact zKg (by decide) h2 hk
  · have z2 : G ∈ [18, 27, 28, 29, 30, 31, 32, 47, 48, 49, 50, 51, 52, 53, 54, 55] := by
      simp only [List.mem_cons, List.not_mem_nil, or_false] at z ⊢
      omega
    refine zKa ?_ ?_ hk
    · simp only [List.mem_cons, List.not_mem_nil, or_false] at z2; omega
    · have := List.all_eq_true.mp h3 G z2
      simpa using this
theorem eqS_k {ms : Nat} (h : maS ms = true) {g g_q : rHp} (hk : ∀ (G : Nat) (k j : Int), ¬ rMdP ms G j → g_q G k j = g G k j) : eqS g g_q := by
  unfold maS at h
  simp only [Bool.and_eq_true, Bool.not_eq_true'] at h
  obtain ⟨⟨h1, h2⟩, h3⟩ := h
  refine ⟨fun G z => ?_, zKo (by decide) h1 hk 0, zKo (by decide) h2 hk 0⟩
  have t := List.all_eq_true.mp h3 G z
  refine zKa ?_ (by simpa using t) hk
  unfold lTM at z
  simp only [List.mem_cons, List.not_mem_nil, or_false] at z
  omega
/-- between calls -/
noncomputable def JK (B : Int) (c m : rHp) : Prop := JJ B c m ∧ (c 0 0 7 ≠ 0 → yE1 c m)
noncomputable def lK (i : Int) (g : rHp) : Prop := ∃ B : Int, 6 * B ≤ 20 * i ∧ JK B g g
theorem yFA_flag {c m c_q m_q : rHp} (h : yFA c m c_q m_q) (w : c_q 0 0 7 ≠ 0) : c 0 0 7 ≠ 0 ∧ m_q 15 0 13 = m 15 0 13 := by
  rcases h.2.2.2.2.2 with ⟨a1, _, _, _, a5⟩ | ⟨a1, _⟩
  · exact ⟨by rw [← a1]; exact w, a5⟩
  · exact absurd a1 w
theorem tell_fl {B v v_q : Int} {o o_q : Nat} {x y : List Int} {c m c_q m_q : rHp} (h : JJ B c m) (hB : B ≤ 10239) (l1 : sn166 x c o v c_q) (l2 : sn51 y m o_q v_q m_q) : c_q 0 0 7 ≠ 0 → c 0 0 7 ≠ 0 ∧ m_q 15 0 13 = m 15 0 13 := by
  have l1 : (o, v, c_q) = fn166 [] c := l1
  have l2 : (o_q, v_q, m_q) = fn51 [] m := l2
  obtain ⟨v1, c1, v2, m1, p1, p2, hR, hy, hA⟩ := tell_two h.1 hB
  rw [p1] at l1
  rw [p2] at l2
  have e1 : c_q = c1 := congrArg (fun r : zR => r.2.2) l1
  have e2 : m_q = m1 := congrArg (fun r : zR => r.2.2) l2
  rw [e1, e2]
  exact yFA_flag (yFA_fin hA)
theorem untell_fl {B v v_q : Int} {o o_q : Nat} {x y : List Int} {c m c_q m_q : rHp} (h : JJ B c m) (hB : B ≤ 10239) (l1 : sn167 x c o v c_q) (l2 : sn52 y m o_q v_q m_q) : c_q 0 0 7 ≠ 0 → c 0 0 7 ≠ 0 ∧ m_q 15 0 13 = m 15 0 13 := by
  have l1 : (o, v, c_q) = fn167 [] c := l1
  have l2 : (o_q, v_q, m_q) = fn52 [] m := l2
  obtain ⟨v1, c1, v2, m1, p1, p2, hR, hy, hA⟩ := untell_two h.1 hB
  rw [p1] at l1
  rw [p2] at l2
  have e1 : c_q = c1 := congrArg (fun r : zR => r.2.2) l1
  have e2 : m_q = m1 := congrArg (fun r : zR => r.2.2) l2
  rw [e1, e2]
  exact yFA_flag hA
theorem drop_fl {B r v v_q : Int} {o o_q : Nat} {x y : List Int} {c m c_q m_q : rHp} (h : JJ B c m) (l1 : sn269 (r :: x) c o v c_q) (l2 : sn54 (r :: y) m o_q v_q m_q) : c_q 0 0 7 ≠ 0 → c 0 0 7 ≠ 0 ∧ m_q 15 0 13 = m 15 0 13 := by
  have l1 : (o, v, c_q) = fn269 [r] c := l1
  have l2 : (o_q, v_q, m_q) = fn54 [r] m := l2
  have e1 : c_q = (fn269 [r] c).2.2 := congrArg (fun r : zR => r.2.2) l1
  have e2 : m_q = (fn54 [r] m).2.2 := congrArg (fun r : zR => r.2.2) l2
  rcases drop_two (r := r) h.1 with ⟨w, c1, m1, p1, p2, _, hR, hy, hA⟩ | ⟨m1, p1, p2, _, hR, hy, hA⟩
  · have e3 : (fn269 [r] c).2.2 0 0 7 = c1 0 0 7 := by
      unfold fn269
      simp only [zLet, List.getD_cons_zero, List.getD_cons_succ, p1]
      split
      · show rUp c1 112 0 0 w 0 0 7 = _
        rw [rUp_grp (by decide)]
      · rfl
    rw [e1, e2, p2, e3]
    exact yFA_flag hA
  · have e3 : (fn269 [r] c).2.2 0 0 7 = c 0 0 7 := by
      unfold fn269
      simp only [zLet, List.getD_cons_zero, List.getD_cons_succ, p1]
      split
      · show rUp c 112 0 0 0 0 0 7 = _
        rw [rUp_grp (by decide)]
      · rfl
    rw [e1, e2, p2, e3]
    exact yFA_flag hA
theorem run_rowk {B : Int} {v v_q : Int} {o o_q : Nat} {x y : List Int} {c m c_q m_q : rHp} (h : JJ B c m) (hB : B ≤ 10239) (hp : pcN c) (h66 : ∀ p, m 66 0 p ≤ 4) (l1 : sn270 x c o v c_q) (l2 : sn78 y m o_q v_q m_q) (k1 : ∀ G, G ∈ lEC → c_q G = c G) (k2 : c_q 2 0 3 = c 2 0 3 ∧ c_q 3 0 1 = c 3 0 1 ∧ c_q 1 0 7 = c 1 0 7 ∧ c_q 1 0 9 = c 1 0 9 ∧ c_q 1 0 10 = c 1 0 10) (k3 : eqM (rUp m 15 0 59 (m_q 15 0 59)) m_q) :
    v = m_q 15 0 0 ∧ (v = 0 → c_q 112 0 0 = v_q) ∧ JJ B c_q m_q ∧ (c_q 0 0 7 ≠ 0 → yE1 c_q m_q ∧ nE c_q m_q) := by
  have l1 : (o, v, c_q) = fn270 [] c := l1
  have l2 : (o_q, v_q, m_q) = fn78 [] m := l2
  have hS := yS_of h.1 hB hp.2 h.2.1 (fun p _ _ => h66 p)
  obtain ⟨o1, w, w_q, c1, m1, p1, p2, hr⟩ := run_two hS
  rw [p2] at l2
  have em : m_q = m1 := congrArg (fun r : zR => r.2.2) l2
  have ev_q : v_q = w_q := congrArg (fun r : zR => r.2.1) l2
  have z := run_z (x := []) (g0 := c)
  rw [p1] at z
  have z : o1 ≠ 0 → fZ0 c c1 := z
  subst em
  subst ev_q
  have fin : ∀ f : Int, c_q 0 0 7 = m_q 15 0 59 → JJ B c_q m_q := fun _ hf => by
    have e1 : eqC (rUp c 0 0 7 (c_q 0 0 7)) c_q := by
      have n : ∀ K : Nat, K ≠ 0 → rUp c 0 0 7 (c_q 0 0 7) K = c K := fun K q => rUp_grp q
      refine ⟨⟨?_, ?_, ?_, ?_, ?_, rUp_at.symm⟩, fun G q => ?_⟩
      · rw [n 2 (by decide)]; exact k2.1
      · rw [n 3 (by decide)]; exact k2.2.1
      · rw [n 1 (by decide)]; exact k2.2.2.1
      · rw [n 1 (by decide)]; exact k2.2.2.2.1
      · rw [n 1 (by decide)]; exact k2.2.2.2.2
      · rw [n G (by rintro rfl; exact absurd q (by decide))]; exact k1 G q
    have hb : JJ B (rUp c 0 0 7 (c_q 0 0 7)) (rUp m 15 0 59 (m_q 15 0 59)) := by
      refine ⟨Rel_fl (L := [0]) (J := []) (L2 := []) (J2 := [59]) h.1 (fH_grp fH_refl (by decide) (by decide)) (by decide) (fH_fld fH_refl (by decide)) (by decide) (by decide) ?_ ?_ ?_, yU_H (L := [0]) (J := []) (L2 := []) (J2 := [59]) h.2.1 (fH_grp fH_refl (by decide) (by decide)) (by decide) (fH_fld fH_refl (by decide)) (by decide) (by decide), by rw [rUp_at, rUp_at]; exact hf⟩
      · obtain ⟨t1, t2, t3⟩ := Rel_TR h.1
        unfold TR
        rw [rUp_ne (show ¬ ((15 : Nat) = 15 ∧ (0 : Int) = 0 ∧ (3 : Int) = 59) by decide), rUp_grp (show (2 : Nat) ≠ 0 by decide), rUp_grp (show (21 : Nat) ≠ 0 by decide), rUp_grp (show (59 : Nat) ≠ 15 by decide)]
        exact ⟨t1, t2, t3⟩
      · rw [rUp_ne (by decide)]; exact h.1.1.2.2.1
      · rw [rUp_ne (by decide)]; exact h.1.2.2.2.1
    exact JJ_eq hb e1 k3
  unfold fn270 at l1
  simp only [zLet, p1] at l1
  rcases hr with ⟨a1, a2, a3, a4, a5, a6, a7, _⟩ | ⟨a1, a2, a3, a4⟩ | ⟨a1, a2, a3, a4⟩ | ⟨a1, a2, a3, a4⟩
  · rw [if_pos a1] at l1
    have e1 : v = 0 := congrArg (fun r : zR => r.2.1) l1
    have e2 : c_q = rUp c1 112 0 0 w := congrArg (fun r : zR => r.2.2) l1
    refine ⟨by rw [e1, a6], fun _ => by rw [e2, rUp_at]; exact a2, fin 0 ?_, fun _ => ?_⟩
    · rw [e2, rUp_grp (by decide), a4, a5]
    · rw [e2]
      refine ⟨yE1_fr (yE1_of a7) ⟨fun K z => rUp_grp (by rintro rfl; exact absurd z (by decide)), by rw [rUp_grp (by decide)]⟩ eqS_rf rfl, ?_⟩
      rw [← e2]
      intro t k t0 t1 k0 k1
      have q1 := a7.2.2.1 t k t0 t1 k0 k1
      unfold vOk at q1
      have q2 := h.2.1.2.1.1
      have q3 := k2.2.1
      have q4 := hp.1
      omega
  · rw [if_neg (by omega), if_neg (by omega), if_pos a1] at l1
    have e1 : v = 1 := congrArg (fun r : zR => r.2.1) l1
    have e2 : c_q = c1 := congrArg (fun r : zR => r.2.2) l1
    refine ⟨by rw [e1, a3], fun q => by omega, fin 0 ?_, fun w => ?_⟩
    · rw [e2, (z (by omega)).1, a4]
    · rw [e2] at w
      exact absurd (z (by omega)).1 w
  · rw [if_neg (by omega), if_pos a1] at l1
    have e1 : v = 3 := congrArg (fun r : zR => r.2.1) l1
    have e2 : c_q = c1 := congrArg (fun r : zR => r.2.2) l1
    refine ⟨by rw [e1, a3], fun q => by omega, fin 0 ?_, fun w => ?_⟩
    · rw [e2, (z (by omega)).1, a4]
    · rw [e2] at w
      exact absurd (z (by omega)).1 w
  · rw [if_neg (by omega), if_neg (by omega), if_neg (by omega)] at l1
    have e1 : v = 2 := congrArg (fun r : zR => r.2.1) l1
    have e2 : c_q = c1 := congrArg (fun r : zR => r.2.2) l1
    refine ⟨by rw [e1, a3], fun q => by omega, fin 0 ?_, fun w => ?_⟩
    · rw [e2, (z (by omega)).1, a4]
    · rw [e2] at w
      exact absurd (z (by omega)).1 w
/-- what the class leaves behind a question, but for the engine's cells, is what it was when read -/
theorem ask_cls {c c_q : rHp} (e : c_q = (fn266 [] c).2.2) (z : ∃ j, c_q 40 0 j ≠ 0) : (∀ K : Nat, K ∉ [0, 6, 8, 37, 38, 41] → c_q K = hA1 c K) ∧ c_q 0 0 7 = hA1 c 0 0 7 := by
  unfold fn266 at e
  simp only [zLet] at e
  unfold hA1
  have f112 : ∀ g : rHp, (fn112 [] g).2.2 = rUp g 2 0 3 0 := fun g => rfl
  have f162 : ∀ (n : Int) (g : rHp), (fn162 [n] g).2.2 = rUp (rUp g 8 n 1 0) 8 n 2 0 := fun n g => rfl
  have f131 : (fn131 [c 1 0 10] c).2.2 = c := rfl
  have f111 : (fn111 [2] c).2.2 = qUc 2 c := rfl
  by_cases b : c 0 0 7 ≠ 0
  · rw [if_pos b] at e ⊢
    rw [f131, f111] at e
    generalize fn159 [] (qUc 2 c) = p2 at e ⊢
    by_cases d : 1 ≤ p2.2.1
    · rw [if_pos d, f112, f162] at e
      have k6 : ∀ K : Nat, K ≠ 8 → rUp (rUp (rUp (rUp p2.2.2 2 0 3 0) 8 (c 0 0 6) 1 0) 8 (c 0 0 6) 2 0) 8 (c 0 0 6) 2 (p2.2.2 2 0 5) K = rUp p2.2.2 2 0 3 0 K := fun K q => by rw [rUp_grp q, rUp_grp q, rUp_grp q]
      generalize rUp (rUp (rUp (rUp p2.2.2 2 0 3 0) 8 (c 0 0 6) 1 0) 8 (c 0 0 6) 2 0) 8 (c 0 0 6) 2 (p2.2.2 2 0 5) = g6 at e k6
      by_cases f : (fn262 [c 40 0 (c 1 0 10), c 0 0 6] g6).1 = 0
      · rw [if_pos f] at e
        have e0 : ∀ K : Nat, K ≠ 0 → c_q K = (fn262 [c 40 0 (c 1 0 10), c 0 0 6] g6).2.2 K := fun K q => by
          rw [e]
          show rUp (rUp (rUp _ 0 0 5 _) 0 0 6 _) 0 0 8 _ K = _
          rw [rUp_grp q, rUp_grp q, rUp_grp q]
        have e7 : c_q 0 0 7 = (fn262 [c 40 0 (c 1 0 10), c 0 0 6] g6).2.2 0 0 7 := by
          rw [e]
          show rUp (rUp (rUp (fn262 [c 40 0 (c 1 0 10), c 0 0 6] g6).2.2 0 0 5 (c 0 0 6)) 0 0 6 (c 0 0 5)) 0 0 8 ((fn262 [c 40 0 (c 1 0 10), c 0 0 6] g6).2.2 6 0 0) 0 0 7 = _
          rw [rUp_ne (by decide), rUp_ne (by decide), rUp_ne (by decide)]
        rw [e0 40 (by decide)] at z
        obtain ⟨x1, x2, _⟩ := fn262_xq z
        refine ⟨fun K q => ?_, ?_⟩
        · rw [e0 K (by rintro rfl; exact absurd q (by decide)), x1 K (fun w => q (List.mem_cons_of_mem _ w)), k6 K (by rintro rfl; exact absurd q (by decide))]
        · rw [e7, x1 0 (by decide), k6 0 (by decide)]
      · rw [if_neg f] at e
        have e : c_q = (fn262 [c 40 0 (c 1 0 10), c 0 0 6] g6).2.2 := e
        rw [e] at z ⊢
        obtain ⟨x1, x2, _⟩ := fn262_xq z
        refine ⟨fun K q => ?_, ?_⟩
        · rw [x1 K (fun w => q (List.mem_cons_of_mem _ w)), k6 K (by rintro rfl; exact absurd q (by decide))]
        · rw [x1 0 (by decide), k6 0 (by decide)]
    · rw [if_neg d, f112] at e
      have e : c_q = rUp p2.2.2 2 0 3 0 := e
      rw [e]
      exact ⟨fun _ _ => rfl, rfl⟩
  · rw [if_neg b] at e ⊢
    have e : c_q = rUp c 2 0 3 0 := e
    rw [e]
    exact ⟨fun _ _ => rfl, rfl⟩
theorem ask_275 {x : List Int} {o : Nat} {v : Int} {c c_q : rHp} (l : sn275 x c o v c_q) : (∀ K : Nat, K ≠ 112 → c_q K = (fn266 [] c).2.2 K) := by
  have l : (o, v, c_q) = fn275 [] c := l
  have e : c_q = (fn275 [] c).2.2 := congrArg (fun r : zR => r.2.2) l
  unfold fn275 at e
  simp only [zLet] at e
  intro K q
  rw [e]
  split
  · exact rUp_grp q
  · split <;> rfl
theorem mk40 {c m : rHp} (h : yU c m) : ∃ j, c 40 0 j ≠ 0 := by
  by_cases a : c 40 0 0 = 0
  · refine ⟨1, fun b => ?_⟩
    have := h.1 0 1 (by decide) (by decide) (by decide) (by decide) (by rw [a, b])
    omega
  · exact ⟨0, a⟩
/-- ask, by both: o and v of the class are not asked for -/
theorem ask_row {B v : Int} {o : Nat} {x : List Int} {c m c_q m_q : rHp} (h : JK B c m) (hB : B ≤ 10239) (l1 : sn275 x c o v c_q) (k40 : c_q 40 = c 40) (l2 : eqM (hB1 m) m_q) (hm : eqS m m_q) (h13 : m_q 15 0 13 = m 15 0 13) : JK (B + 1) c_q m_q := by
  have e5 := ask_275 l1
  obtain ⟨k1_q, k2_q⟩ := ask_cls (c := c) rfl (by rw [← e5 40 (by decide), k40]; exact mk40 h.1.2.1)
  have k1 : ∀ K : Nat, K ∉ [0, 6, 8, 37, 38, 41, 112] → c_q K = hA1 c K := fun K q => by
    rw [e5 K (by rintro rfl; exact absurd q (by decide))]
    refine k1_q K (fun w => q ?_)
    simp only [List.mem_cons, List.not_mem_nil, or_false] at w ⊢
    omega
  have k2 : c_q 0 0 7 = hA1 c 0 0 7 := by rw [e5 0 (by decide)]; exact k2_q
  have hJ := ask_row1 h.1 hB
  have e : eqC (hA1 c) c_q := ⟨⟨by rw [k1 2 (by decide)], by rw [k1 3 (by decide)], by rw [k1 1 (by decide)], by rw [k1 1 (by decide)], by rw [k1 1 (by decide)], k2⟩, fun G q => k1 G (by
    unfold lEC at q
    simp only [List.mem_cons, List.not_mem_nil, or_false] at q ⊢
    omega)⟩
  have hA : yFA c m (hA1 c) (hB1 m) := ((ask_two h.1.1 hB).2 h.1.2.2).2
  refine ⟨JJ_eq hJ e l2, fun w => ?_⟩
  rw [k2] at w
  refine yE1_fr (h.2 (yFA_flag hA w).1) ⟨fun K q => ?_, ?_⟩ hm h13
  · rw [k1 K (by
      unfold lTC at q
      simp only [List.mem_cons, List.not_mem_nil, or_false] at q ⊢
      omega)]
    refine hA.1 K ?_
    unfold lTC at q
    unfold lAA
    simp only [List.mem_cons, List.not_mem_nil, or_false] at q ⊢
    omega
  · rw [k1 1 (by decide)]
    exact hA.2.2.1
/-- both have run, and what they have is the same; or neither has -/
noncomputable def yG1 (c m : rHp) : Prop := c 0 0 7 = m 15 0 59 ∧ (c 0 0 7 ≠ 0 → yE1 c m)
theorem tuple_one {c m : rHp} {i w : Int} (hG : yG1 c m) (hp : ∀ p, 0 ≤ p → p < m 15 0 13 → c 17 0 p = m 66 0 p) :
    ∃ o v v_q k, fn174 [i, w] c = (o, v, c) ∧ fn81 [i, w] m = (0, v_q, rUp m 15 0 0 k) ∧ ((o = 0 ∧ k = 0 ∧ v = v_q) ∨ (o = 2 ∧ k = 1) ∨ (o = 5 ∧ k = 2) ∨ (o = 1 ∧ k = 3)) := by
  unfold fn174 fn81
  simp only [zLet, List.getD_cons_zero, List.getD_cons_succ, fn171_eq, fn79_eq, fn1_eq]
  by_cases a : w < 0
  · rw [if_pos a, if_pos a]
    exact ⟨2, 0, 0, 1, rfl, rfl, Or.inr (Or.inl ⟨rfl, rfl⟩)⟩
  rw [if_neg a, if_neg a]
  by_cases b : w < 9
  · rw [if_pos b, if_pos (show w ≤ 8 by omega)]
    by_cases d : c 0 0 7 = 0
    · rw [if_pos d, if_neg (show ¬ m 15 0 59 ≠ 0 from fun z => z (by rw [← hG.1]; exact d))]
      refine ⟨5, 0, 0, 2, ?_, rfl, Or.inr (Or.inr (Or.inl ⟨rfl, rfl⟩))⟩
      exact (if_neg (show ¬ (5 : Nat) = 0 by decide)).trans (if_neg (show ¬ (5 : Nat) = 1 by decide))
    · obtain ⟨hT, hX, hv, hl, h8⟩ := hG.2 d
      rw [if_neg d, if_pos (show m 15 0 59 ≠ 0 by rw [← hG.1]; exact d), hT.1]
      by_cases e : 0 ≤ i ∧ i < m 15 0 71
      · rw [if_pos e, if_pos e, if_pos (Int.le_refl 1)]
        obtain ⟨t1, t2⟩ := hT.2.2.2 i e.1 (by rw [hT.1]; exact e.2)
        obtain ⟨u1, u2, u3, u4, u5⟩ := hX i e.1 e.2
        have pr := hT.2.2.1.2.1 i e.1 e.2
        show ∃ o v v_q k, (if (0 : Nat) = 0 then _ else _) = (o, v, c) ∧ _
        rw [if_pos rfl, t1]
        by_cases f : w ≤ 3
        · rw [if_pos (show 0 ≤ -w + 3 by omega), if_pos (show 0 ≤ -w + 3 by omega), hp _ pr.1 pr.2]
          by_cases g : w ≥ m 66 0 (m 93 0 i)
          · rw [if_pos g, if_pos g]
            exact ⟨0, 300000000, 300000000, 0, rfl, rfl, Or.inl ⟨rfl, rfl, rfl⟩⟩
          · rw [if_neg g, if_neg g, t2 w (by omega) (by omega)]
            obtain ⟨x, x1, x2⟩ := told_two (hv i w e.1 e.2 (by omega) (by omega)) c (rUp m 15 0 0 0)
            rw [x1, x2]
            exact ⟨0, x, x, 0, rfl, rfl, Or.inl ⟨rfl, rfl, rfl⟩⟩
        · rw [if_neg (show ¬ 0 ≤ -w + 3 by omega), if_neg (show ¬ 0 ≤ -w + 3 by omega)]
          by_cases g4 : w = 4
          · rw [if_pos g4, if_pos g4]
            exact ⟨0, _, _, 0, rfl, rfl, Or.inl ⟨rfl, rfl, rfl⟩⟩
          rw [if_neg g4, if_neg g4]
          by_cases g5 : w = 5
          · rw [if_pos g5, if_pos g5, hl _ pr.1 pr.2]
            exact ⟨0, _, _, 0, rfl, rfl, Or.inl ⟨rfl, rfl, rfl⟩⟩
          rw [if_neg g5, if_neg g5]
          by_cases g6 : w = 6
          · rw [if_pos g6, if_pos g6, u1]
            exact ⟨0, _, _, 0, rfl, rfl, Or.inl ⟨rfl, rfl, rfl⟩⟩
          rw [if_neg g6, if_neg g6]
          by_cases g7 : w = 7
          · rw [if_pos g7, if_pos g7, u2]
            exact ⟨0, _, _, 0, rfl, rfl, Or.inl ⟨rfl, rfl, rfl⟩⟩
          rw [if_neg g7, if_neg g7, u3]
          exact ⟨0, _, _, 0, rfl, rfl, Or.inl ⟨rfl, rfl, rfl⟩⟩
      · rw [if_neg e, if_neg e, if_neg (show ¬ (1 : Int) ≤ 0 by decide)]
        refine ⟨1, 0, 0, 3, ?_, rfl, Or.inr (Or.inr (Or.inr ⟨rfl, rfl⟩))⟩
        exact (if_neg (show ¬ (1 : Nat) = 0 by decide)).trans (if_pos rfl)
  · rw [if_neg b, if_neg (show ¬ w ≤ 8 by omega)]
    exact ⟨2, 0, 0, 1, rfl, rfl, Or.inr (Or.inl ⟨rfl, rfl⟩)⟩
theorem why_one {c m : rHp} {i w : Int} (hG : yG1 c m) :
    ∃ o v v_q k, fn175 [i, w] c = (o, v, c) ∧ fn82 [i, w] m = (0, v_q, rUp m 15 0 0 k) ∧ ((o = 0 ∧ k = 0 ∧ v = v_q) ∨ (o = 5 ∧ k = 1) ∨ (o = 1 ∧ k = 2)) := by
  unfold fn175 fn82
  simp only [zLet, List.getD_cons_zero, List.getD_cons_succ, fn171_eq, fn79_eq, fn1_eq]
  by_cases d : c 0 0 7 = 0
  · rw [if_pos d, if_neg (show ¬ m 15 0 59 ≠ 0 from fun z => z (by rw [← hG.1]; exact d))]
    refine ⟨5, 0, 0, 1, ?_, rfl, Or.inr (Or.inl ⟨rfl, rfl⟩)⟩
    exact (if_neg (show ¬ (5 : Nat) = 0 by decide)).trans (if_neg (show ¬ (5 : Nat) = 1 by decide))
  · obtain ⟨hT, hX, hv, hl, h8⟩ := hG.2 d
    rw [if_neg d, if_pos (show m 15 0 59 ≠ 0 by rw [← hG.1]; exact d), hT.1]
    by_cases e : 0 ≤ i ∧ i < m 15 0 71
    · rw [if_pos e, if_pos e, if_pos (Int.le_refl 1)]
      obtain ⟨u1, u2, u3, u4, u5⟩ := hX i e.1 e.2
      show ∃ o v v_q k, (if (0 : Nat) = 0 then _ else _) = (o, v, c) ∧ _
      rw [if_pos rfl]
      by_cases f : w < 0
      · rw [if_pos f, if_pos f]
        exact ⟨1, 0, 0, 2, rfl, rfl, Or.inr (Or.inr ⟨rfl, rfl⟩)⟩
      · rw [if_neg f, if_neg f]
        by_cases g : w < c 32 0 i
        · rw [if_pos g, if_pos (show w < m 97 0 i by rw [← u3]; exact g), u5 w (by omega) g]
          exact ⟨0, _, _, 0, rfl, rfl, Or.inl ⟨rfl, rfl, rfl⟩⟩
        · rw [if_neg g, if_neg (show ¬ w < m 97 0 i by rw [← u3]; exact g)]
          exact ⟨1, 0, 0, 2, rfl, rfl, Or.inr (Or.inr ⟨rfl, rfl⟩)⟩
    · rw [if_neg e, if_neg e, if_neg (show ¬ (1 : Int) ≤ 0 by decide)]
      refine ⟨1, 0, 0, 2, ?_, rfl, Or.inr (Or.inr ⟨rfl, rfl⟩)⟩
      exact (if_neg (show ¬ (1 : Nat) = 0 by decide)).trans (if_pos rfl)
theorem laid_one {c m : rHp} {p : Int} (hG : yG1 c m) (h7 : c 1 0 7 = m 15 0 13) :
    ∃ o v v_q k, fn177 [p] c = (o, v, c) ∧ fn83 [p] m = (0, v_q, rUp m 15 0 0 k) ∧ ((o = 0 ∧ k = 0 ∧ v = v_q) ∨ (o = 5 ∧ k = 1) ∨ (o = 1 ∧ k = 2)) := by
  unfold fn177 fn83 fn170
  simp only [zLet, List.getD_cons_zero, fn1_eq]
  by_cases d : c 0 0 7 = 0
  · rw [if_neg (show ¬ c 0 0 7 ≠ 0 from fun z => z d), if_neg (show ¬ m 15 0 59 ≠ 0 from fun z => z (by rw [← hG.1]; exact d))]
    refine ⟨5, 0, 0, 1, ?_, rfl, Or.inr (Or.inl ⟨rfl, rfl⟩)⟩
    exact if_neg (show ¬ (5 : Nat) = 0 by decide)
  · obtain ⟨hT, hX, hv, hl, h8⟩ := hG.2 d
    rw [if_pos (show c 0 0 7 ≠ 0 from d), if_pos (show m 15 0 59 ≠ 0 by rw [← hG.1]; exact d), h7]
    show ∃ o v v_q k, (if (0 : Nat) = 0 then _ else _) = (o, v, c) ∧ _
    rw [if_pos rfl]
    by_cases f : p < 0
    · rw [if_pos f, if_pos f]
      exact ⟨1, 0, 0, 2, rfl, rfl, Or.inr (Or.inr ⟨rfl, rfl⟩)⟩
    · rw [if_neg f, if_neg f]
      by_cases g : p < m 15 0 13
      · rw [if_pos g, if_pos g, hl p (by omega) g]
        exact ⟨0, _, _, 0, rfl, rfl, Or.inl ⟨rfl, rfl, rfl⟩⟩
      · rw [if_neg g, if_neg g]
        exact ⟨1, 0, 0, 2, rfl, rfl, Or.inr (Or.inr ⟨rfl, rfl⟩)⟩
theorem JJ_17 {B : Int} {c m : rHp} (h : JJ B c m) : ∀ p, 0 ≤ p → p < m 15 0 13 → c 17 0 p = m 66 0 p := fun p p0 p1 => by
  have P := h.1.2.2.2.2.1
  unfold qP at P
  rw [show rUp m 15 0 14 (m 15 0 13) 15 0 14 = m 15 0 13 from rUp_at, rUp_grp (show (66 : Nat) ≠ 15 by decide)] at P
  exact (P.2.2.2 p p0 p1).2
theorem JJ_7 {B : Int} {c m : rHp} (h : JJ B c m) : c 1 0 7 = m 15 0 13 := by
  have P := h.1.2.2.2.2.1.1
  rw [show rUp m 15 0 14 (m 15 0 13) 15 0 14 = m 15 0 13 from rUp_at] at P
  exact P
theorem JK_G {B : Int} {c m : rHp} (h : JK B c m) : yG1 c m := ⟨h.1.2.2, h.2⟩
theorem tuple_cmp {B i w v v_q : Int} {o o_q : Nat} {x y : List Int} {c m c_q m_q : rHp} (h : JK B c m) (l1 : sn271 (i :: w :: x) c o v c_q) (l2 : sn81 (i :: w :: y) m o_q v_q m_q) : v = m_q 15 0 0 ∧ (v = 0 → c_q 112 0 0 = v_q) := by
  have l1 : (o, v, c_q) = fn271 [i, w] c := l1
  have l2 : (o_q, v_q, m_q) = fn81 [i, w] m := l2
  obtain ⟨o1, w1, w2, k, p1, p2, hr⟩ := tuple_one (i := i) (w := w) (JK_G h) (JJ_17 h.1)
  rw [p2] at l2
  have em : m_q = rUp m 15 0 0 k := congrArg (fun r : zR => r.2.2) l2
  have ev : v_q = w2 := congrArg (fun r : zR => r.2.1) l2
  have e0 : m_q 15 0 0 = k := by rw [em, rUp_at]
  unfold fn271 at l1
  simp only [zLet, List.getD_cons_zero, List.getD_cons_succ, p1] at l1
  rcases hr with ⟨a1, a2, a3⟩ | ⟨a1, a2⟩ | ⟨a1, a2⟩ | ⟨a1, a2⟩
  · rw [if_pos a1] at l1
    have e1 : v = 0 := congrArg (fun r : zR => r.2.1) l1
    have e2 : c_q = rUp c 112 0 0 w1 := congrArg (fun r : zR => r.2.2) l1
    exact ⟨by rw [e1, e0, a2], fun _ => by rw [e2, rUp_at, ev]; exact a3⟩
  · rw [if_neg (by omega), if_neg (by omega), if_pos a1] at l1
    have e1 : v = 1 := congrArg (fun r : zR => r.2.1) l1
    exact ⟨by rw [e1, e0, a2], fun q => by omega⟩
  · rw [if_neg (by omega), if_neg (by omega), if_neg (by omega)] at l1
    have e1 : v = 2 := congrArg (fun r : zR => r.2.1) l1
    exact ⟨by rw [e1, e0, a2], fun q => by omega⟩
  · rw [if_neg (by omega), if_pos a1] at l1
    have e1 : v = 3 := congrArg (fun r : zR => r.2.1) l1
    exact ⟨by rw [e1, e0, a2], fun q => by omega⟩
theorem why_cmp {B i w v v_q : Int} {o o_q : Nat} {x y : List Int} {c m c_q m_q : rHp} (h : JK B c m) (l1 : sn272 (i :: w :: x) c o v c_q) (l2 : sn82 (i :: w :: y) m o_q v_q m_q) : v = m_q 15 0 0 ∧ (v = 0 → c_q 112 0 0 = v_q) := by
  have l1 : (o, v, c_q) = fn272 [i, w] c := l1
  have l2 : (o_q, v_q, m_q) = fn82 [i, w] m := l2
  obtain ⟨o1, w1, w2, k, p1, p2, hr⟩ := why_one (i := i) (w := w) (JK_G h)
  rw [p2] at l2
  have em : m_q = rUp m 15 0 0 k := congrArg (fun r : zR => r.2.2) l2
  have ev : v_q = w2 := congrArg (fun r : zR => r.2.1) l2
  have e0 : m_q 15 0 0 = k := by rw [em, rUp_at]
  unfold fn272 at l1
  simp only [zLet, List.getD_cons_zero, List.getD_cons_succ, p1] at l1
  rcases hr with ⟨a1, a2, a3⟩ | ⟨a1, a2⟩ | ⟨a1, a2⟩
  · rw [if_pos a1] at l1
    have e1 : v = 0 := congrArg (fun r : zR => r.2.1) l1
    have e2 : c_q = rUp c 112 0 0 w1 := congrArg (fun r : zR => r.2.2) l1
    exact ⟨by rw [e1, e0, a2], fun _ => by rw [e2, rUp_at, ev]; exact a3⟩
  · rw [if_neg (by omega), if_neg (by omega)] at l1
    have e1 : v = 1 := congrArg (fun r : zR => r.2.1) l1
    exact ⟨by rw [e1, e0, a2], fun q => by omega⟩
  · rw [if_neg (by omega), if_pos a1] at l1
    have e1 : v = 2 := congrArg (fun r : zR => r.2.1) l1
    exact ⟨by rw [e1, e0, a2], fun q => by omega⟩
theorem layer_cmp {B i v v_q : Int} {o o_q : Nat} {x y : List Int} {c m c_q m_q : rHp} (h : JK B c m) (l1 : sn277 (i :: x) c o v c_q) (l2 : sn83 (i :: y) m o_q v_q m_q) : v = m_q 15 0 0 ∧ (v = 0 → c_q 112 0 0 = v_q) := by
  have l1 : (o, v, c_q) = fn277 [i] c := l1
  have l2 : (o_q, v_q, m_q) = fn83 [i] m := l2
  obtain ⟨o1, w1, w2, k, p1, p2, hr⟩ := laid_one (p := i) (JK_G h) (JJ_7 h.1)
  rw [p2] at l2
  have em : m_q = rUp m 15 0 0 k := congrArg (fun r : zR => r.2.2) l2
  have ev : v_q = w2 := congrArg (fun r : zR => r.2.1) l2
  have e0 : m_q 15 0 0 = k := by rw [em, rUp_at]
  unfold fn277 at l1
  simp only [zLet, List.getD_cons_zero, List.getD_cons_succ, p1] at l1
  rcases hr with ⟨a1, a2, a3⟩ | ⟨a1, a2⟩ | ⟨a1, a2⟩
  · rw [if_pos a1] at l1
    have e1 : v = 0 := congrArg (fun r : zR => r.2.1) l1
    have e2 : c_q = rUp c 112 0 0 w1 := congrArg (fun r : zR => r.2.2) l1
    exact ⟨by rw [e1, e0, a2], fun _ => by rw [e2, rUp_at, ev]; exact a3⟩
  · rw [if_neg (by omega), if_neg (by omega)] at l1
    have e1 : v = 1 := congrArg (fun r : zR => r.2.1) l1
    exact ⟨by rw [e1, e0, a2], fun q => by omega⟩
  · rw [if_neg (by omega), if_pos a1] at l1
    have e1 : v = 2 := congrArg (fun r : zR => r.2.1) l1
    exact ⟨by rw [e1, e0, a2], fun q => by omega⟩
