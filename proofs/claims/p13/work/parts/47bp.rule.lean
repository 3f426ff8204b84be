/-! ===== what a RULE is by both ===== -/
theorem qAs_to {E : Prop} {kind kn cur G x x_q i : Int} {c m c_q m_q : rHp} (h : qAs E kind kn cur G x i c m) (h43 : c_q 43 G = c 43 G) (h44 : c_q 44 G = c 44 G) (h46 : c_q 46 G = c 46 G) (h80 : ∀ (K : Nat) (j : Int), K = 80 ∨ K = 81 → 0 ≤ j → j < i → m_q K 0 (j + x_q) = m K 0 (j + x)) : qAs E kind kn cur G x_q i c_q m_q := by
  obtain ⟨a1, a2, a3, a4⟩ := h
  have e80 : ∀ j, 0 ≤ j → j < i → m_q 80 0 (j + x_q) = m 80 0 (j + x) := fun j => h80 80 j (by decide)
  have e81 : ∀ j, 0 ≤ j → j < i → m_q 81 0 (j + x_q) = m 81 0 (j + x) := fun j => h80 81 j (by decide)
  refine ⟨fun j j0 j1 => ?_, a2, fun k => ⟨fun v hv hb => ((a3 k).1 v hv hb).imp id ?_, fun j j0 j1 => ?_⟩, a4⟩
  · have q := a1 j j0 j1
    unfold qAo at q ⊢
    rw [h43, h44, h46, e80 j j0 j1, e81 j j0 j1]
    rcases q with q | ⟨q1, q2, q3⟩ | q
    · exact Or.inl q
    · refine Or.inr (Or.inl ⟨q1, q2, ?_⟩)
      rcases q3 with q3 | q3 | ⟨q3, q4, q5, q6, q7⟩ | q3
      · exact Or.inl q3
      · exact Or.inr (Or.inl q3)
      · refine Or.inr (Or.inr (Or.inl ⟨q3, q4, q5, q6, fun i_q z0 z1 => ?_⟩))
        rw [e80 i_q z0 (by omega), e81 i_q z0 (by omega)]
        exact q7 i_q z0 z1
      · exact Or.inr (Or.inr (Or.inr q3))
    · exact Or.inr (Or.inr q)
  · rintro ⟨j, j0, j1, j2, j3, j4, j5⟩
    exact ⟨j, j0, j1, by rw [e80 j j0 j1]; exact j2, by rw [h43]; exact j3, by rw [h44]; exact j4, by rw [e81 j j0 j1]; exact j5⟩
  · rw [e80 j j0 j1, e81 j j0 j1]
    exact (a3 k).2 j j0 j1
/-- a GOAL stays what it is where its cells do, here or there -/
theorem gGo_to {E : Prop} {kn kn_q G q q_q : Int} {c m c_q m_q : rHp} (h : gGo E kn kn_q G q c m) (h10 : ∀ j, j ≠ 10 → c_q 10 G j = c 10 G j) (h43 : ∀ K : Nat, K = 43 ∨ K = 44 ∨ K = 46 → c_q K G = c K G) (h77 : ∀ K : Nat, K = 77 ∨ K = 78 ∨ K = 79 → m_q K 0 q_q = m K 0 q) (h80 : ∀ (K : Nat) (j : Int), K = 80 ∨ K = 81 → 0 ≤ j → j < 4 → m_q K 0 (j + 4 * q_q) = m K 0 (j + 4 * q)) (h14 : m 15 0 14 ≤ m_q 15 0 14) (h66 : ∀ p, p < m 15 0 14 → m_q 66 0 p = m 66 0 p) : gGo E kn kn_q G q_q c_q m_q := by
  obtain ⟨k1, k2⟩ := h
  have i0 : ∀ K : Nat, K = 80 ∨ K = 81 → m_q K 0 (4 * q_q) = m K 0 (4 * q) := fun K z => by have := h80 K 0 z (by decide) (by decide); rw [Int.zero_add, Int.zero_add] at this; exact this
  have i1 : ∀ K : Nat, K = 80 ∨ K = 81 → m_q K 0 (4 * q_q + 1) = m K 0 (4 * q + 1) := fun K z => by have := h80 K 1 z (by decide) (by decide); rw [Int.add_comm 1, Int.add_comm 1] at this; exact this
  have i2 : ∀ K : Nat, K = 80 ∨ K = 81 → m_q K 0 (4 * q_q + 2) = m K 0 (4 * q + 2) := fun K z => by have := h80 K 2 z (by decide) (by decide); rw [Int.add_comm 2, Int.add_comm 2] at this; exact this
  have vl : ∀ k x x_q, m_q 80 0 x_q = m 80 0 x → m_q 81 0 x_q = m 81 0 x → gVl E kn G k x c m → gVl E kn G k x_q c_q m_q := fun k x x_q z1 z2 z => by
    unfold gVl at z ⊢
    rw [h43 43 (by decide), h43 44 (by decide), h43 46 (by decide), z1, z2]
    exact z
  refine ⟨by rw [h77 79 (by decide)]; exact k1, ?_⟩
  rw [h10 4 (by decide)]
  rcases k2 with ⟨k2, a1, a2, a3, a4, a5, a6, a7, a8, a9⟩ | ⟨⟨a1, a2, a3, a4, a5⟩, a6⟩ | ⟨⟨a1, a2, a3, a4, a5, a6, a7, a8⟩, a9⟩
  · refine Or.inl ⟨k2, ?_⟩
    unfold qEc
    rw [h10 8 (by decide), h10 5 (by decide), h77 77 (by decide), h77 78 (by decide), h77 79 (by decide), h66 _ a5]
    exact ⟨a1, a2, a3, a4, by omega, a6, a7, qAs_to a8 (h43 43 (by decide)) (h43 44 (by decide)) (h43 46 (by decide)) (fun K j z1 z2 z3 => h80 K j z1 z2 (by omega)), gGd_up a9 (h10 9 (by decide)) (h43 43 (by decide)) (h43 44 (by decide))⟩
  · refine Or.inr (Or.inl ⟨?_, a6⟩)
    unfold gCm
    rw [h10 4 (by decide), h77 77 (by decide)]
    exact ⟨a1, a2, a3, vl _ _ _ (i0 80 (by decide)) (i0 81 (by decide)) a4, vl _ _ _ (i1 80 (by decide)) (i1 81 (by decide)) a5⟩
  · rw [i0 81 (by decide)]
    refine Or.inr (Or.inr ⟨?_, a9⟩)
    unfold gRk
    rw [h10 4 (by decide), h10 11 (by decide), h77 77 (by decide), i0 81 (by decide)]
    exact ⟨a1, a2, a3, vl _ _ _ (i1 80 (by decide)) (i1 81 (by decide)) a4, vl _ _ _ (i2 80 (by decide)) (i2 81 (by decide)) a5, a6, a7, a8⟩
/-- behind a ! what is not KNOWN stands for anything -/
noncomputable def gLo (kn G q : Int) (c m : rHp) : Prop := m 77 0 q = 1 → ∀ j, 0 ≤ j → j < c 10 G 5 → m 80 0 (j + 4 * q) = 1 → qBt kn (m 81 0 (j + 4 * q)) = 1
theorem gLo_to {E : Prop} {kn kn_q G q q_q : Int} {c m c_q m_q : rHp} (h : gLo kn G q c m) (hg : gGo E kn kn_q G q c m) (h10 : ∀ j, j ≠ 10 → c_q 10 G j = c 10 G j) (h77 : m_q 77 0 q_q = m 77 0 q) (h80 : ∀ (K : Nat) (j : Int), K = 80 ∨ K = 81 → 0 ≤ j → j < 4 → m_q K 0 (j + 4 * q_q) = m K 0 (j + 4 * q)) : gLo kn G q_q c_q m_q := by
  intro z j j0 j1
  rw [h77] at z
  rw [h10 5 (by decide)] at j1
  have j4 : j < 4 := by
    rcases hg.2 with ⟨_, a⟩ | ⟨a, _⟩ | ⟨a, _⟩
    · have := a.2.2.2.2.2.2.1.2
      omega
    · have := a.2.1
      omega
    · have := a.2.1
      omega
  rw [h80 80 j (by decide) j0 j4, h80 81 j (by decide) j0 j4]
  exact h z j j0 j1
/-- the GOALS of a RULE -/
noncomputable def gG3 (E : Prop) (r R n : Int) (kb : Int → Int) (c m : rHp) : Prop := (∀ g, 0 ≤ g → g < n → gGo E (kb g) (kb (g + 1)) (9 * R + (g + 1)) (g + 8 * r) c m ∧ gLo (kb g) (9 * R + (g + 1)) (g + 8 * r) c m ∧ (m 77 0 (g + 8 * r) = 0 → c 10 (9 * R + (g + 1)) 10 = cn (isA r m) g)) ∧ c 9 R 3 = cn (isA r m) n
/-- the HEAD of a RULE; kn: what is KNOWN in the end -/
noncomputable def gH2 (E : Prop) (r R kn : Int) (c m : rHp) : Prop := c 10 (9 * R) 8 = m 69 0 r ∧ (0 ≤ m 69 0 r ∧ m 69 0 r < m 15 0 14) ∧ c 10 (9 * R) 5 = m 66 0 (m 69 0 r) ∧ (0 ≤ c 10 (9 * R) 5 ∧ c 10 (9 * R) 5 ≤ 4) ∧ c 10 (9 * R) 12 = m 71 0 r ∧ (0 ≤ m 71 0 r ∧ m 71 0 r ≤ 4) ∧ (∀ k, 0 ≤ k → k < c 10 (9 * R) 5 → (c 43 (9 * R) k = 0 ∧ m 70 0 (k + 4 * r) = 0 ∧ vE E (c 46 (9 * R) k) (m 76 0 (k + 4 * r))) ∨ (c 43 (9 * R) k = 1 ∧ m 70 0 (k + 4 * r) = 1 ∧ c 44 (9 * R) k = m 76 0 (k + 4 * r) ∧ qVr (m 76 0 (k + 4 * r)) ∧ qBt kn (m 76 0 (k + 4 * r)) = 1) ∨ (c 43 (9 * R) k = 4 ∧ m 70 0 (k + 4 * r) = 3 ∧ c 46 (9 * R) k = 0 ∧ k = c 10 (9 * R) 13)) ∧ (2 ≤ m 71 0 r → c 10 (9 * R) 14 = m 72 0 r ∧ qVr (m 72 0 r) ∧ qBt kn (m 72 0 r) = 1) ∧ (1 ≤ m 71 0 r → ∃ k, 0 ≤ k ∧ k < c 10 (9 * R) 5 ∧ c 43 (9 * R) k = 4)
/-- the RULE r of the reference, R of the class -/
noncomputable def gR2 (E : Prop) (r R : Int) (c m : rHp) : Prop := ∃ (n : Int) (kb : Int → Int), c 9 R 2 = n ∧ m 73 0 r = n ∧ (0 ≤ n ∧ n ≤ 8) ∧ (∀ v, qVr v → qBt (kb 0) v ≠ 1) ∧ (∀ g, 0 ≤ g → g ≤ n → qKr (kb g)) ∧ gG3 E r R n kb c m ∧ gH2 E r R (kb n) c m
/-- a RULE stays what it is where its cells do, here or there -/
theorem gR2_to {E : Prop} {r r_q R : Int} {c m c_q m_q : rHp} (h : gR2 E r R c m) (h9 : c_q 9 R = c 9 R) (h10 : ∀ (K : Nat) (g : Int), K = 10 ∨ K = 43 ∨ K = 44 ∨ K = 46 → 0 ≤ g → g ≤ 8 → c_q K (9 * R + g) = c K (9 * R + g)) (h69 : ∀ K : Nat, K = 69 ∨ K = 71 ∨ K = 72 ∨ K = 73 → m_q K 0 r_q = m K 0 r) (h70 : ∀ (K : Nat) (k : Int), K = 70 ∨ K = 76 → 0 ≤ k → k < 4 → m_q K 0 (k + 4 * r_q) = m K 0 (k + 4 * r)) (h77 : ∀ (K : Nat) (g : Int), K = 77 ∨ K = 78 ∨ K = 79 → 0 ≤ g → g < 8 → m_q K 0 (g + 8 * r_q) = m K 0 (g + 8 * r)) (h80 : ∀ (K : Nat) (g j : Int), K = 80 ∨ K = 81 → 0 ≤ g → g < 8 → 0 ≤ j → j < 4 → m_q K 0 (j + 4 * (g + 8 * r_q)) = m K 0 (j + 4 * (g + 8 * r))) (h14 : m 15 0 14 ≤ m_q 15 0 14) (h66 : ∀ p, p < m 15 0 14 → m_q 66 0 p = m 66 0 p) : gR2 E r_q R c_q m_q := by
  obtain ⟨n, kb, a1, a2, a3, a4, a7, ⟨a5, a6⟩, b1, b2, b3, b4, b5, b6, b7, b8, b9⟩ := h
  have cg : ∀ g, 0 ≤ g → g ≤ n → cn (isA r_q m_q) g = cn (isA r m) g := fun g g0 g1 => cn_congr g0 (fun j j0 j1 => by unfold isA; rw [h77 77 j (by decide) j0 (by omega)])
  have z9 : ∀ K : Nat, K = 10 ∨ K = 43 ∨ K = 44 ∨ K = 46 → c_q K (9 * R) = c K (9 * R) := fun K z => by
    have := h10 K 0 z (by decide) (by decide)
    rw [Int.add_zero] at this
    exact this
  refine ⟨n, kb, by rw [h9]; exact a1, by rw [h69 73 (by decide)]; exact a2, a3, a4, a7, ⟨fun g g0 g1 => ?_, by rw [h9, cg n a3.1 (Int.le_refl _)]; exact a6⟩, ?_⟩
  · obtain ⟨d1, d2, d3⟩ := a5 g g0 g1
    have e10 : ∀ K : Nat, K = 10 ∨ K = 43 ∨ K = 44 ∨ K = 46 → c_q K (9 * R + (g + 1)) = c K (9 * R + (g + 1)) := fun K z => h10 K (g + 1) z (by omega) (by omega)
    refine ⟨gGo_to d1 (fun j _ => by rw [e10 10 (by decide)]) (fun K z => e10 K (by omega)) (fun K z => h77 K g z g0 (by omega)) (fun K j z j0 j1 => h80 K g j z g0 (by omega) j0 j1) h14 h66, gLo_to d2 d1 (fun j _ => by rw [e10 10 (by decide)]) (h77 77 g (by decide) g0 (by omega)) (fun K j z j0 j1 => h80 K g j z g0 (by omega) j0 j1), fun z => ?_⟩
    rw [h77 77 g (by decide) g0 (by omega)] at z
    rw [e10 10 (by decide), cg g g0 (by omega)]
    exact d3 z
  · unfold gH2
    rw [z9 10 (by decide), z9 43 (by decide), z9 44 (by decide), z9 46 (by decide), h69 69 (by decide), h69 71 (by decide), h69 72 (by decide), h66 _ b2.2]
    refine ⟨b1, ⟨b2.1, by omega⟩, b3, b4, b5, b6, fun k k0 k1 => ?_, b8, b9⟩
    rw [h70 70 k (by decide) k0 (by omega), h70 76 k (by decide) k0 (by omega)]
    exact b7 k k0 k1
theorem gR2_DE {E : Prop} {r R r_q R_q : Int} {c m c_q m_q : rHp} (h : gR2 E r R c m) (hD : fD R_q c c_q) (hE : fE r_q m m_q) (hR : R ≠ R_q) (hr : r < r_q) : gR2 E r R c_q m_q := by
  obtain ⟨_, d2, d3⟩ := hD
  obtain ⟨e1, e2, e3, e4, e5, e6⟩ := hE
  exact gR2_to h (d2 R hR) (fun K g z g0 g1 => d3 K _ (by omega) (by omega)) (fun K z => e1 K r (by omega) hr) (fun K k z k0 k1 => e2 K _ z (by omega)) (fun K g z g0 g1 => e3 K _ z (by omega)) (fun K g j z g0 g1 j0 j1 => e4 K _ z (by omega)) e5 e6
theorem gR2_E {E E_q : Prop} {r R : Int} {c m : rHp} (h : gR2 E r R c m) (hE : E_q → E) : gR2 E_q r R c m := by
  obtain ⟨n, kb, a1, a2, a3, a4, a7, ⟨a5, a6⟩, b1, b2, b3, b4, b5, b6, b7, b8, b9⟩ := h
  have ve : ∀ a b, vE E a b → vE E_q a b := fun a b z e => z (hE e)
  have vl : ∀ kn G k x, gVl E kn G k x c m → gVl E_q kn G k x c m := fun kn G k x z => z.imp (fun y => ⟨y.1, y.2.1, ve _ _ y.2.2⟩) id
  have ao : ∀ kind kn G x j, qAo E kind kn G x j c m → qAo E_q kind kn G x j c m := fun kind kn G x j z => z.imp (fun y => ⟨y.1, y.2.1, ve _ _ y.2.2⟩) id
  refine ⟨n, kb, a1, a2, a3, a4, a7, ⟨fun g g0 g1 => ?_, a6⟩, b1, b2, b3, b4, b5, b6, fun k k0 k1 => ?_, b8, b9⟩
  · obtain ⟨⟨d0, d1⟩, d2, d3⟩ := a5 g g0 g1
    refine ⟨⟨d0, ?_⟩, d2, d3⟩
    rcases d1 with ⟨k2, y1, y2, y3, y4, y5, y6, y7, ⟨y8, y9⟩, y10⟩ | ⟨⟨y1, y2, y3, y4, y5⟩, y6⟩ | ⟨⟨y1, y2, y3, y4, y5, y6⟩, y7⟩
    · exact Or.inl ⟨k2, y1, y2, y3, y4, y5, y6, y7, ⟨fun j j0 j1 => ao _ _ _ _ _ (y8 j j0 j1), y9⟩, y10⟩
    · exact Or.inr (Or.inl ⟨⟨y1, y2, y3, vl _ _ _ _ y4, vl _ _ _ _ y5⟩, y6⟩)
    · exact Or.inr (Or.inr ⟨⟨y1, y2, y3, vl _ _ _ _ y4, vl _ _ _ _ y5, y6⟩, y7⟩)
  · exact (b7 k k0 k1).imp (fun y => ⟨y.1, y.2.1, ve _ _ y.2.2⟩) id
