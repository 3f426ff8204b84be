/-! ===== counts; what a CLAUSE leaves as it is; the GOALS of a RULE by both ===== -/
/-- how many below n -/
noncomputable def cnt (p : Int → Bool) : Nat → Int
  | 0 => 0
  | n + 1 => cnt p n + if p (n : Int) = true then 1 else 0
noncomputable def cn (p : Int → Bool) (g : Int) : Int := cnt p g.toNat
theorem cn_0 {p : Int → Bool} : cn p 0 = 0 := rfl
theorem cn_s {p : Int → Bool} {g : Int} (h : 0 ≤ g) : cn p (g + 1) = cn p g + if p g = true then 1 else 0 := by
  unfold cn
  rw [show (g + 1).toNat = g.toNat + 1 by omega]
  show cnt p g.toNat + (if p ((g.toNat : Nat) : Int) = true then 1 else 0) = _
  rw [show ((g.toNat : Nat) : Int) = g by omega]
theorem cn_mono {p : Int → Bool} {g : Int} (h : 0 ≤ g) : ∀ (d : Nat), cn p g ≤ cn p (g + d) := by
  intro d
  induction d with
  | zero => rw [show g + ((0 : Nat) : Int) = g by omega]; exact Int.le_refl _
  | succ d ih =>
    rw [show g + ((d + 1 : Nat) : Int) = (g + d) + 1 by omega, cn_s (by omega)]
    split <;> omega
theorem cn_le {p : Int → Bool} {g x : Int} (h : 0 ≤ g) (hx : g ≤ x) : cn p g ≤ cn p x := by
  have := cn_mono (p := p) h (x - g).toNat
  rw [show g + (((x - g).toNat : Nat) : Int) = x by omega] at this
  exact this
theorem cn_ge {p : Int → Bool} {g : Int} (h : 0 ≤ g) : 0 ≤ cn p g := cn_le (p := p) (Int.le_refl 0) h
theorem cn_top {p : Int → Bool} {g : Int} (h : 0 ≤ g) : cn p g ≤ g := by
  have key : ∀ d : Nat, cn p (d : Int) ≤ d := by
    intro d
    induction d with
    | zero => exact Int.le_refl _
    | succ d ih =>
      rw [show ((d + 1 : Nat) : Int) = (d : Int) + 1 by omega, cn_s (by omega)]
      split <;> omega
  have := key g.toNat
  rw [show ((g.toNat : Nat) : Int) = g by omega] at this
  exact this
theorem cn_congr {p q : Int → Bool} {g : Int} (h0 : 0 ≤ g) (h : ∀ j, 0 ≤ j → j < g → p j = q j) : cn p g = cn q g := by
  have key : ∀ d : Nat, (d : Int) ≤ g → cn p (d : Int) = cn q (d : Int) := by
    intro d
    induction d with
    | zero => intro _; rfl
    | succ d ih =>
      intro hd
      rw [show ((d + 1 : Nat) : Int) = (d : Int) + 1 by omega, cn_s (by omega), cn_s (by omega), ih (by omega), h d (by omega) (by omega)]
  have := key g.toNat (by omega)
  rw [show ((g.toNat : Nat) : Int) = g by omega] at this
  exact this
/-- as many up to x as up to g: none between -/
theorem cn_none {p : Int → Bool} {g x : Int} (h0 : 0 ≤ g) (hx : g ≤ x) : cn p x = cn p g ↔ ∀ j, g ≤ j → j < x → p j = false := by
  constructor
  · intro h j j0 j1
    by_cases b : p j = true
    · have a1 := cn_le (p := p) h0 j0
      have a2 := cn_le (p := p) (g := j + 1) (x := x) (by omega) (by omega)
      rw [cn_s (by omega), if_pos b] at a2
      omega
    · exact Bool.eq_false_iff.mpr b
  · intro h
    have key : ∀ d : Nat, g + (d : Int) ≤ x → cn p (g + (d : Int)) = cn p g := by
      intro d
      induction d with
      | zero => intro _; rw [show g + ((0 : Nat) : Int) = g by omega]
      | succ d ih =>
        intro hd
        rw [show g + ((d + 1 : Nat) : Int) = (g + (d : Int)) + 1 by omega, cn_s (by omega), ih (by omega), h (g + d) (by omega) (by omega), if_neg (by decide)]
        omega
    have := key (x - g).toNat (by omega)
    rw [show g + (((x - g).toNat : Nat) : Int) = x by omega] at this
    exact this
/-- g_q is g but for the RULE at R -/
noncomputable def fD (R : Int) (g g_q : rHp) : Prop := g_q 40 = g 40 ∧ (∀ h, h ≠ R → g_q 9 h = g 9 h) ∧ ∀ (K : Nat) (h : Int), K = 10 ∨ K = 43 ∨ K = 44 ∨ K = 45 ∨ K = 46 → h < 9 * R ∨ 9 * R + 9 ≤ h → g_q K h = g K h
theorem fD_refl {R : Int} {g : rHp} : fD R g g := ⟨rfl, fun _ _ => rfl, fun _ _ _ _ => rfl⟩
theorem fD_tr {R : Int} {a b c : rHp} (h1 : fD R a b) (h2 : fD R b c) : fD R a c :=
  ⟨h2.1.trans h1.1, fun h z => (h2.2.1 h z).trans (h1.2.1 h z), fun K h z1 z2 => (h2.2.2 K h z1 z2).trans (h1.2.2 K h z1 z2)⟩
theorem fD_o {R G : Int} {a b : rHp} (h : fO G a b) (hb : b 2 0 3 ≠ 0) (h1 : 9 * R ≤ G) (h2 : G ≤ 9 * R + 8) : fD R a b := by
  obtain ⟨_, _, b2, b3, b4⟩ := h hb
  exact ⟨b2, fun h _ => by rw [b3], fun K h z1 z2 => b4 K h z1 (by omega)⟩
theorem fD_H {R : Int} {L : List Nat} {J : List Int} {a b : rHp} (h : fH 2 L J a b) (hL : ∀ x ∈ [9, 10, 40, 43, 44, 45, 46], x ∉ L) : fD R a b := by
  have k : ∀ x, x ∈ [9, 10, 40, 43, 44, 45, 46] → b x = a x := fun x z => h.1 x (hL x z) (by rintro rfl; exact absurd z (by decide))
  exact ⟨k 40 (by decide), fun h _ => by rw [k 9 (by decide)], fun K h z1 _ => by rw [k K (by rcases z1 with rfl | rfl | rfl | rfl | rfl <;> decide)]⟩
/-- g_q is g but for the RULES from r on; PREDICATES only grow -/
noncomputable def fE (r : Int) (g g_q : rHp) : Prop := (∀ (K : Nat) (x : Int), K = 69 ∨ K = 71 ∨ K = 72 ∨ K = 73 ∨ K = 75 → x < r → g_q K 0 x = g K 0 x) ∧ (∀ (K : Nat) (x : Int), K = 70 ∨ K = 76 → x < 4 * r → g_q K 0 x = g K 0 x) ∧ (∀ (K : Nat) (x : Int), K = 77 ∨ K = 78 ∨ K = 79 → x < 8 * r → g_q K 0 x = g K 0 x) ∧ (∀ (K : Nat) (x : Int), K = 80 ∨ K = 81 → x < 32 * r → g_q K 0 x = g K 0 x) ∧ g 15 0 14 ≤ g_q 15 0 14 ∧ ∀ p, p < g 15 0 14 → g_q 66 0 p = g 66 0 p
theorem fE_refl {r : Int} {g : rHp} : fE r g g := ⟨fun _ _ _ _ => rfl, fun _ _ _ _ => rfl, fun _ _ _ _ => rfl, fun _ _ _ _ => rfl, Int.le_refl _, fun _ _ => rfl⟩
theorem fE_tr {r : Int} {a b c : rHp} (h1 : fE r a b) (h2 : fE r b c) : fE r a c := by
  obtain ⟨a1, a2, a3, a4, a5, a6⟩ := h1
  obtain ⟨b1, b2, b3, b4, b5, b6⟩ := h2
  exact ⟨fun K x z1 z2 => (b1 K x z1 z2).trans (a1 K x z1 z2), fun K x z1 z2 => (b2 K x z1 z2).trans (a2 K x z1 z2), fun K x z1 z2 => (b3 K x z1 z2).trans (a3 K x z1 z2), fun K x z1 z2 => (b4 K x z1 z2).trans (a4 K x z1 z2), Int.le_trans a5 b5, fun p z => (b6 p (by omega)).trans (a6 p z)⟩
theorem fE_y {r q : Int} {a b : rHp} (h : fY q a b) (hb : b 15 0 34 ≠ 0) (hq : 8 * r ≤ q) : fE r a b := by
  obtain ⟨_, _, b2, b3, b4, b5, b6⟩ := h hb
  exact ⟨fun K x z1 _ => by rw [b2 K (by omega)], fun K x z1 _ => by rw [b2 K (by omega)], fun K x z1 z2 => b3 K x z1 (by omega), fun K x z1 z2 => b4 K x z1 (by omega), b5, b6⟩
theorem fE_H {r : Int} {L : List Nat} {J : List Int} {a b : rHp} (h : fH 15 L J a b) (hL : ∀ x ∈ [66, 69, 70, 71, 72, 73, 75, 76, 77, 78, 79, 80, 81], x ∉ L) (hJ : (14 : Int) ∉ J) : fE r a b := by
  have k : ∀ x, x ∈ [66, 69, 70, 71, 72, 73, 75, 76, 77, 78, 79, 80, 81] → b x = a x := fun x z => h.1 x (hL x z) (by rintro rfl; exact absurd z (by decide))
  exact ⟨fun K x z1 _ => by rw [k K (by rcases z1 with rfl | rfl | rfl | rfl | rfl <;> decide)], fun K x z1 _ => by rw [k K (by rcases z1 with rfl | rfl <;> decide)], fun K x z1 _ => by rw [k K (by rcases z1 with rfl | rfl | rfl <;> decide)], fun K x z1 _ => by rw [k K (by rcases z1 with rfl | rfl <;> decide)], by rw [h.2 14 hJ]; exact Int.le_refl _, fun p _ => by rw [k 66 (by decide)]⟩
theorem qAs_fr {E : Prop} {kind kn cur G x i : Int} {c m c_q m_q : rHp} (h : qAs E kind kn cur G x i c m) (h43 : c_q 43 G = c 43 G) (h44 : c_q 44 G = c 44 G) (h46 : c_q 46 G = c 46 G) (h80 : ∀ (K : Nat) (j : Int), K = 80 ∨ K = 81 → 0 ≤ j → j < i → m_q K 0 (j + x) = m K 0 (j + x)) : qAs E kind kn cur G x i c_q m_q := by
  obtain ⟨a1, a2, a3, a4⟩ := h
  have e80 : ∀ j, 0 ≤ j → j < i → m_q 80 0 (j + x) = m 80 0 (j + x) := fun j => h80 80 j (by decide)
  have e81 : ∀ j, 0 ≤ j → j < i → m_q 81 0 (j + x) = m 81 0 (j + x) := fun j => h80 81 j (by decide)
  refine ⟨fun j j0 j1 => ?_, a2, fun k => ⟨fun v hv hb => ((a3 k).1 v hv hb).imp id ?_, fun j j0 j1 => ?_⟩, a4⟩
  · have q := a1 j j0 j1
    unfold qAo at q ⊢
    rw [h43, h44, h46, e80 j j0 j1, e81 j j0 j1]
    rcases q with q | ⟨q1, q2, q3⟩ | q
    · exact Or.inl q
    · refine Or.inr (Or.inl ⟨q1, q2, ?_⟩)
      rcases q3 with q3 | q3 | ⟨q3, q4, q5, q6, q7⟩ | q3
      · exact Or.inl q3
      · exact Or.inr (Or.inl q3)
      · refine Or.inr (Or.inr (Or.inl ⟨q3, q4, q5, q6, fun i_q z0 z1 => ?_⟩))
        rw [e80 i_q z0 (by omega), e81 i_q z0 (by omega)]
        exact q7 i_q z0 z1
      · exact Or.inr (Or.inr (Or.inr q3))
    · exact Or.inr (Or.inr q)
  · rintro ⟨j, j0, j1, j2, j3, j4, j5⟩
    exact ⟨j, j0, j1, by rw [e80 j j0 j1]; exact j2, by rw [h43]; exact j3, by rw [h44]; exact j4, by rw [e81 j j0 j1]; exact j5⟩
  · rw [e80 j j0 j1, e81 j j0 j1]
    exact (a3 k).2 j j0 j1
/-- a GOAL stays what it is where its cells do -/
theorem gGo_up {E : Prop} {kn kn_q G q : Int} {c m c_q m_q : rHp} (h : gGo E kn kn_q G q c m) (h10 : ∀ j, j ≠ 10 → c_q 10 G j = c 10 G j) (h43 : ∀ K : Nat, K = 43 ∨ K = 44 ∨ K = 46 → c_q K G = c K G) (h77 : ∀ K : Nat, K = 77 ∨ K = 78 ∨ K = 79 → m_q K 0 q = m K 0 q) (h80 : ∀ (K : Nat) (x : Int), K = 80 ∨ K = 81 → 4 * q ≤ x → x < 4 * q + 4 → m_q K 0 x = m K 0 x) (h14 : m 15 0 14 ≤ m_q 15 0 14) (h66 : ∀ p, p < m 15 0 14 → m_q 66 0 p = m 66 0 p) : gGo E kn kn_q G q c_q m_q := by
  obtain ⟨k1, k2⟩ := h
  have vl : ∀ k x, 4 * q ≤ x → x < 4 * q + 4 → gVl E kn G k x c m → gVl E kn G k x c_q m_q := fun k x z1 z2 z => gVl_up z ⟨by rw [h43 43 (by decide)], by rw [h43 44 (by decide)], by rw [h43 46 (by decide)]⟩ ⟨h80 80 x (by decide) z1 z2, h80 81 x (by decide) z1 z2⟩
  refine ⟨by rw [h77 79 (by decide)]; exact k1, ?_⟩
  rw [h10 4 (by decide)]
  rcases k2 with ⟨k2, a1, a2, a3, a4, a5, a6, a7, a8, a9⟩ | ⟨⟨a1, a2, a3, a4, a5⟩, a6⟩ | ⟨⟨a1, a2, a3, a4, a5, a6, a7, a8⟩, a9⟩
  · refine Or.inl ⟨k2, ?_⟩
    unfold qEc
    rw [h10 8 (by decide), h10 5 (by decide), h77 77 (by decide), h77 78 (by decide), h77 79 (by decide), h66 _ a5]
    exact ⟨a1, a2, a3, a4, by omega, a6, a7, qAs_fr a8 (h43 43 (by decide)) (h43 44 (by decide)) (h43 46 (by decide)) (fun K j z1 z2 z3 => h80 K (j + 4 * q) z1 (by omega) (by omega)), gGd_up a9 (h10 9 (by decide)) (h43 43 (by decide)) (h43 44 (by decide))⟩
  · refine Or.inr (Or.inl ⟨?_, a6⟩)
    unfold gCm
    rw [h10 4 (by decide), h77 77 (by decide)]
    exact ⟨a1, a2, a3, vl _ _ (by omega) (by omega) a4, vl _ _ (by omega) (by omega) a5⟩
  · rw [h80 81 (4 * q) (by decide) (by omega) (by omega)]
    refine Or.inr (Or.inr ⟨?_, a9⟩)
    unfold gRk
    rw [h10 4 (by decide), h10 11 (by decide), h77 77 (by decide), h80 81 (4 * q) (by decide) (by omega) (by omega)]
    exact ⟨a1, a2, a3, vl _ _ (by omega) (by omega) a4, vl _ _ (by omega) (by omega) a5, a6, a7, a8⟩
theorem gGo_kd {E : Prop} {kn kn_q G q : Int} {c m : rHp} (h : gGo E kn kn_q G q c m) : c 10 G 4 = m 77 0 q + 1 ∧ 0 ≤ m 77 0 q ∧ m 77 0 q ≤ 7 := by
  rcases h.2 with ⟨k, a⟩ | ⟨a, _⟩ | ⟨a, _⟩
  · have := a.1
    omega
  · have := a.1
    have := a.2.1
    have := a.2.2.1
    omega
  · have := a.1
    have := a.2.1
    have := a.2.2.1
    omega
noncomputable def isA (r : Int) (m : rHp) (h : Int) : Bool := decide (m 77 0 (h + 8 * r) = 0)
/-- the first n GOALS of a RULE; k0 is what was KNOWN ahead of them -/
noncomputable def gGs (E : Prop) (r R n k0 : Int) (c m : rHp) : Prop := ∃ kb : Int → Int, kb 0 = k0 ∧ kb n = m 15 0 45 ∧ (∀ g, 0 ≤ g → g ≤ n → qKr (kb g)) ∧ (∀ g, 0 ≤ g → g < n → gGo E (kb g) (kb (g + 1)) (9 * R + (g + 1)) (g + 8 * r) c m ∧ (m 77 0 (g + 8 * r) = 0 → c 10 (9 * R + (g + 1)) 10 = cn (isA r m) g)) ∧ c 9 R 3 = cn (isA r m) n
theorem gGs_nil {E : Prop} {r R k0 : Int} {c m : rHp} (h0 : k0 = m 15 0 45) (hk : qKr k0) (h3 : c 9 R 3 = 0) : gGs E r R 0 k0 c m := ⟨fun _ => k0, rfl, h0, fun _ _ _ => hk, fun g a b => by omega, h3⟩
theorem gGs_up {E : Prop} {r R n k0 : Int} {c m c_q m_q : rHp} (h : gGs E r R n k0 c m) (hn : 0 ≤ n) (hn8 : n ≤ 8) (h9 : c_q 9 R 3 = c 9 R 3) (h10 : ∀ (K : Nat) (g : Int), K = 10 ∨ K = 43 ∨ K = 44 ∨ K = 46 → 0 ≤ g → g < n → c_q K (9 * R + (g + 1)) = c K (9 * R + (g + 1))) (h45 : m_q 15 0 45 = m 15 0 45) (h77 : ∀ (K : Nat) (x : Int), K = 77 ∨ K = 78 ∨ K = 79 → x < n + 8 * r → m_q K 0 x = m K 0 x) (h80 : ∀ (K : Nat) (x : Int), K = 80 ∨ K = 81 → x < 4 * (n + 8 * r) → m_q K 0 x = m K 0 x) (h14 : m 15 0 14 ≤ m_q 15 0 14) (h66 : ∀ p, p < m 15 0 14 → m_q 66 0 p = m 66 0 p) : gGs E r R n k0 c_q m_q := by
  obtain ⟨kb, a1, a2, a5, a3, a4⟩ := h
  have cg : ∀ g, 0 ≤ g → g ≤ n → cn (isA r m_q) g = cn (isA r m) g := fun g g0 g1 => cn_congr g0 (fun j j0 j1 => by unfold isA; rw [h77 77 _ (by decide) (by omega)])
  refine ⟨kb, a1, by rw [h45]; exact a2, a5, fun g g0 g1 => ?_, by rw [h9, a4, cg n hn (Int.le_refl _)]⟩
  obtain ⟨b1, b2⟩ := a3 g g0 g1
  refine ⟨gGo_up b1 (fun j _ => by rw [h10 10 g (by decide) g0 g1]) (fun K z => h10 K g (by omega) g0 g1) (fun K z => h77 K _ z (by omega)) (fun K x z z1 z2 => h80 K x z (by omega)) h14 h66, fun z => ?_⟩
  rw [h77 77 _ (by decide) (by omega)] at z
  rw [h10 10 g (by decide) g0 g1, cg g g0 (by omega)]
  exact b2 z
/-- one more GOAL: c3, m3 behind it, c4, m4 with the counts moved -/
theorem gGs_add {E : Prop} {r R i k0 : Int} {c m c3 m3 c4 m4 : rHp} (h : gGs E r R i k0 c m) (hi : 0 ≤ i) (hi8 : i < 8) (hk : qKr (m3 15 0 45))
    (hg : gGo E (m 15 0 45) (m3 15 0 45) (9 * R + (i + 1)) (i + 8 * r) c3 m3)
    (o10 : ∀ (K : Nat) (g : Int), K = 10 ∨ K = 43 ∨ K = 44 ∨ K = 46 → 0 ≤ g → g < i → c4 K (9 * R + (g + 1)) = c K (9 * R + (g + 1)))
    (o77 : ∀ (K : Nat) (x : Int), K = 77 ∨ K = 78 ∨ K = 79 → x < i + 8 * r → m4 K 0 x = m K 0 x) (o80 : ∀ (K : Nat) (x : Int), K = 80 ∨ K = 81 → x < 4 * (i + 8 * r) → m4 K 0 x = m K 0 x) (o14 : m 15 0 14 ≤ m4 15 0 14) (o66 : ∀ p, p < m 15 0 14 → m4 66 0 p = m 66 0 p)
    (n10 : ∀ j, j ≠ 10 → c4 10 (9 * R + (i + 1)) j = c3 10 (9 * R + (i + 1)) j) (n43 : ∀ K : Nat, K = 43 ∨ K = 44 ∨ K = 46 → c4 K (9 * R + (i + 1)) = c3 K (9 * R + (i + 1))) (nm : ∀ K : Nat, K = 66 ∨ K = 77 ∨ K = 78 ∨ K = 79 ∨ K = 80 ∨ K = 81 → m4 K = m3 K) (n14 : m4 15 0 14 = m3 15 0 14) (n45 : m4 15 0 45 = m3 15 0 45)
    (h3 : (c3 10 (9 * R + (i + 1)) 4 = 1 ∧ c4 10 (9 * R + (i + 1)) 10 = c 9 R 3 ∧ c4 9 R 3 = c 9 R 3 + 1) ∨ (c3 10 (9 * R + (i + 1)) 4 ≠ 1 ∧ c4 9 R 3 = c 9 R 3)) : gGs E r R (i + 1) k0 c4 m4 := by
  obtain ⟨kb, a1, a2, a5, a3, a4⟩ := h
  have cg : ∀ g, 0 ≤ g → g ≤ i → cn (isA r m4) g = cn (isA r m) g := fun g g0 g1 => cn_congr g0 (fun j j0 j1 => by unfold isA; rw [o77 77 _ (by decide) (by omega)])
  have kd := gGo_kd hg
  have e77 : m4 77 = m3 77 := nm 77 (by decide)
  refine ⟨fun g => if g ≤ i then kb g else m4 15 0 45, by show (if (0 : Int) ≤ i then kb 0 else _) = k0; rw [if_pos hi]; exact a1, by show (if i + 1 ≤ i then _ else m4 15 0 45) = _; rw [if_neg (by omega)], fun g g0 g1 => ?_, fun g g0 g1 => ?_, ?_⟩
  · show qKr (if g ≤ i then kb g else m4 15 0 45)
    by_cases e : g ≤ i
    · rw [if_pos e]; exact a5 g g0 e
    · rw [if_neg e, n45]; exact hk
  · show gGo E (if g ≤ i then kb g else m4 15 0 45) (if g + 1 ≤ i then kb (g + 1) else m4 15 0 45) _ _ c4 m4 ∧ _
    rw [if_pos (show g ≤ i by omega)]
    by_cases e : g = i
    · subst e
      rw [if_neg (show ¬ g + 1 ≤ g by omega), a2, n45]
      refine ⟨gGo_up hg n10 n43 (fun K z => by rw [nm K (by omega)]) (fun K x z _ _ => by rw [nm K (by omega)]) (by rw [n14]; exact Int.le_refl _) (fun p _ => by rw [nm 66 (by decide)]), fun z => ?_⟩
      rw [e77] at z
      rw [cg g g0 (Int.le_refl _), ← a4]
      rcases h3 with ⟨_, z2, _⟩ | ⟨z1, _⟩
      · exact z2
      · exact absurd (show c3 10 (9 * R + (g + 1)) 4 = 1 by omega) z1
    · rw [if_pos (show g + 1 ≤ i by omega)]
      obtain ⟨b1, b2⟩ := a3 g g0 (by omega)
      refine ⟨gGo_up b1 (fun j _ => by rw [o10 10 g (by decide) g0 (by omega)]) (fun K z => o10 K g (by omega) g0 (by omega)) (fun K z => o77 K _ z (by omega)) (fun K x z z1 z2 => o80 K x z (by omega)) o14 o66, fun z => ?_⟩
      rw [o77 77 _ (by decide) (by omega)] at z
      rw [o10 10 g (by decide) g0 (by omega), cg g g0 (by omega)]
      exact b2 z
  · rw [cn_s hi, cg i hi (Int.le_refl _), ← a4]
    have d : isA r m4 i = decide (m3 77 0 (i + 8 * r) = 0) := by unfold isA; rw [e77]
    rw [d]
    rcases h3 with ⟨z1, _, z3⟩ | ⟨z1, z3⟩
    · rw [if_pos (by simp only [decide_eq_true_eq]; omega)]; exact z3
    · rw [if_neg (by simp only [decide_eq_true_eq]; omega)]; omega
