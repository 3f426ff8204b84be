/-! ===== what the ARGS of an ATOM are by both ===== -/
/-- a number or a NAME -/
noncomputable def vNm (b : Int) : Prop := (-2147483648 ≤ b ∧ b ≤ 2147483647) ∨ (1099511627776 ≤ b ∧ b ≤ 1099512676352)
/-- the same value, where NAMES have the same numbers -/
noncomputable def vE (E : Prop) (a b : Int) : Prop := E → a = b ∧ vNm b
theorem vE_of {d : Int} {c0 m0 c m : rHp} (hR : qR d c0 m0 c m) (hd : d ≤ 1) (hlim : 2 * c0 1000 0 0 + m0 15 0 34 ≤ 10239) {a b : Int} (h : vR c m a b) : vE (sN c0 m0) a b := fun hs => by
  have e := vR_same (hR.2.2.1.2.2.2.2 hs) hR.2.2.1.2.1 h
  refine ⟨e, ?_⟩
  have e34 : m 15 0 34 = m0 15 0 34 := hR.2.2.2.2.2.2.2.1.2 34 (by decide)
  have h1 := hR.2.1.2.2
  have h2 := hR.2.2.2.2.2.2.2.2.2.1
  rcases h with h | ⟨k, k_q, h1, h2, h3, h4, h5, h6, h7⟩
  · exact Or.inl ⟨by omega, by omega⟩
  · exact Or.inr ⟨by omega, by omega⟩
/-- ARG j: kn is what was KNOWN ahead of the ATOM -/
noncomputable def qAo (E : Prop) (kind kn G x j : Int) (c m : rHp) : Prop :=
  (c 43 G j = 0 ∧ m 80 0 (j + x) = 0 ∧ vE E (c 46 G j) (m 81 0 (j + x))) ∨
  (m 80 0 (j + x) = 1 ∧ qVr (m 81 0 (j + x)) ∧
    ((c 43 G j = 1 ∧ c 44 G j = m 81 0 (j + x) ∧ qBt kn (m 81 0 (j + x)) = 1) ∨
     (kind = 1 ∧ c 43 G j = 1 ∧ c 44 G j = m 81 0 (j + x) ∧ qBt kn (m 81 0 (j + x)) ≠ 1 ∧ ∃ i, 0 ≤ i ∧ i < j ∧ c 43 G i = 2 ∧ c 44 G i = m 81 0 (j + x)) ∨
     (kind = 1 ∧ c 43 G j = 2 ∧ c 44 G j = m 81 0 (j + x) ∧ qBt kn (m 81 0 (j + x)) ≠ 1 ∧ ∀ i, 0 ≤ i → i < j → m 80 0 (i + x) = 1 → m 81 0 (i + x) ≠ m 81 0 (j + x)) ∨
     (kind = 2 ∧ c 43 G j = 3 ∧ qBt kn (m 81 0 (j + x)) ≠ 1))) ∨
  (c 43 G j = 3 ∧ m 80 0 (j + x) = 2)
/-- the ARGS before i, and what is KNOWN behind them -/
noncomputable def qAs (E : Prop) (kind kn cur G x i : Int) (c m : rHp) : Prop :=
  (∀ j, 0 ≤ j → j < i → qAo E kind kn G x j c m) ∧ (∀ v, qVr v → qBt kn v = 1 → qBt cur v = 1) ∧
  (kind = 1 → (∀ v, qVr v → qBt cur v = 1 → qBt kn v = 1 ∨ ∃ j, 0 ≤ j ∧ j < i ∧ m 80 0 (j + x) = 1 ∧ c 43 G j = 2 ∧ c 44 G j = v ∧ m 81 0 (j + x) = v) ∧ ∀ j, 0 ≤ j → j < i → m 80 0 (j + x) = 1 → qBt cur (m 81 0 (j + x)) = 1) ∧
  (kind = 2 → cur = kn)
theorem qAs_up {E : Prop} {kind kn cur G x i : Int} {c m c_q m_q : rHp} (h : qAs E kind kn cur G x i c m) (h43 : c_q 43 G = c 43 G) (h44 : c_q 44 G = c 44 G) (h46 : c_q 46 G = c 46 G) (h80 : m_q 80 = m 80) (h81 : m_q 81 = m 81) : qAs E kind kn cur G x i c_q m_q := by
  unfold qAs qAo at h ⊢
  rw [h43, h44, h46, h80, h81]
  exact h
theorem qAs_nil {E : Prop} {kind kn G x : Int} {c m : rHp} : qAs E kind kn kn G x 0 c m :=
  ⟨fun j a b => by omega, fun v _ h => h, fun _ => ⟨fun v _ h => Or.inl h, fun j a b => by omega⟩, fun _ => rfl⟩
theorem qAs_add {E : Prop} {kind kn G x i s v : Int} {c m c_q m6 mv : rHp} (h : qAs E kind kn (c 2 0 5) G x i c m) (hi : 0 ≤ i) (hkd : kind = 1 ∨ kind = 2) (hA : qAr kind (c 2 0 5) G i s v c c_q mv) (hE : ∀ a b, vR c_q mv a b → vE E a b) (hv : s = 1 → qVr v) (h80 : ∀ y, m6 80 0 y = if y = i + x then s else m 80 0 y) (h81 : ∀ y, m6 81 0 y = if y = i + x then v else m 81 0 y) (hX : qX kind s v c c_q) (hK : qKr (c 2 0 5)) : qAs E kind kn (c_q 2 0 5) G x (i + 1) c_q m6 := by
  obtain ⟨a1, a2, a3, a4⟩ := h
  obtain ⟨b1, b2⟩ := hA
  have o80 : ∀ j, j < i → m6 80 0 (j + x) = m 80 0 (j + x) := fun j hj => by rw [h80, if_neg (by omega)]
  have o81 : ∀ j, j < i → m6 81 0 (j + x) = m 81 0 (j + x) := fun j hj => by rw [h81, if_neg (by omega)]
  have n80 : m6 80 0 (i + x) = s := by rw [h80, if_pos rfl]
  have n81 : m6 81 0 (i + x) = v := by rw [h81, if_pos rfl]
  have old : ∀ j, 0 ≤ j → j < i → qAo E kind kn G x j c_q m6 := fun j j0 j1 => by
    obtain ⟨e1, e2, e3⟩ := b1 j (by omega)
    have q := a1 j j0 j1
    unfold qAo at q ⊢
    rw [e1, e2, e3, o80 j j1, o81 j j1]
    rcases q with q | ⟨q1, q2, q3⟩ | q
    · exact Or.inl q
    · refine Or.inr (Or.inl ⟨q1, q2, ?_⟩)
      rcases q3 with q3 | ⟨q3, q4, q5, q6, i_q, q7, q8, q9, q10⟩ | ⟨q3, q4, q5, q6, q7⟩ | q3
      · exact Or.inl q3
      · refine Or.inr (Or.inl ⟨q3, q4, q5, q6, i_q, q7, q8, ?_⟩)
        obtain ⟨f1, f2, f3⟩ := b1 i_q (by omega)
        rw [f1, f2]
        exact ⟨q9, q10⟩
      · refine Or.inr (Or.inr (Or.inl ⟨q3, q4, q5, q6, fun i_q z0 z1 => ?_⟩))
        rw [o80 i_q (by omega), o81 i_q (by omega)]
        exact q7 i_q z0 z1
      · exact Or.inr (Or.inr (Or.inr q3))
    · exact Or.inr (Or.inr q)
  have all : qAo E kind kn G x i c_q m6 → ∀ j, 0 ≤ j → j < i + 1 → qAo E kind kn G x j c_q m6 := fun z j j0 j1 => by
    by_cases e : j = i
    · rw [e]; exact z
    · exact old j j0 (by omega)
  have keep : ∀ u, (∃ j, 0 ≤ j ∧ j < i ∧ m 80 0 (j + x) = 1 ∧ c 43 G j = 2 ∧ c 44 G j = u ∧ m 81 0 (j + x) = u) → ∃ j, 0 ≤ j ∧ j < i + 1 ∧ m6 80 0 (j + x) = 1 ∧ c_q 43 G j = 2 ∧ c_q 44 G j = u ∧ m6 81 0 (j + x) = u := by
    rintro u ⟨j, j0, j1, j2, j3, j4, j5⟩
    obtain ⟨e1, e2, e3⟩ := b1 j (by omega)
    exact ⟨j, j0, by omega, by rw [o80 j j1]; exact j2, by rw [e1]; exact j3, by rw [e2]; exact j4, by rw [o81 j j1]; exact j5⟩
  /- KNOWN stays as it was -/
  have same : c_q 2 0 5 = c 2 0 5 → (s = 1 → kind = 1 → qBt (c 2 0 5) v = 1) → qAo E kind kn G x i c_q m6 → qAs E kind kn (c_q 2 0 5) G x (i + 1) c_q m6 := fun e hs z => by
    rw [e]
    refine ⟨all z, a2, fun k => ⟨fun u hu hb => ((a3 k).1 u hu hb).imp id (keep u), fun j j0 j1 j2 => ?_⟩, a4⟩
    by_cases ej : j = i
    · rw [ej, n81]
      rw [ej, n80] at j2
      exact hs j2 k
    · rw [o80 j (by omega)] at j2
      rw [o81 j (by omega)]
      exact (a3 k).2 j j0 (by omega) j2
  rcases b2 with ⟨s0, q1, q2⟩ | ⟨s1, q1, q2, q3⟩ | ⟨s1, q1, q2, q3, q4⟩ | ⟨s1, q1, q2, q3⟩ | ⟨s2, q1⟩
  · have e : c_q 2 0 5 = c 2 0 5 := by
      rcases hX with ⟨_, r, _⟩ | ⟨r, _⟩ | ⟨r, _⟩ | ⟨r, _⟩
      · exact r
      · omega
      · omega
      · omega
    refine same e (fun z => by omega) (Or.inl ⟨q1, by rw [n80]; exact s0, ?_⟩)
    rw [n81]
    exact hE _ _ q2
  · have e : c_q 2 0 5 = c 2 0 5 := by
      rcases hX with ⟨r, _⟩ | ⟨_, _, r, _⟩ | ⟨_, r, _⟩ | ⟨_, r, _⟩
      · exact absurd s1 r
      · exact r
      · exact absurd q1 r
      · exact absurd q1 r
    refine same e (fun _ _ => q1) (Or.inr (Or.inl ⟨by rw [n80]; exact s1, by rw [n81]; exact hv s1, ?_⟩))
    rw [n81]
    by_cases hb : qBt kn v = 1
    · exact Or.inl ⟨q2, q3, hb⟩
    · by_cases k1 : kind = 1
      · rcases (a3 k1).1 v (hv s1) q1 with z | ⟨j, j0, j1, j2, j3, j4, j5⟩
        · exact absurd z hb
        · obtain ⟨e1, e2, e3⟩ := b1 j (by omega)
          exact Or.inr (Or.inl ⟨k1, q2, q3, hb, j, j0, j1, by rw [e1]; exact j3, by rw [e2]; exact j4⟩)
      · rw [a4 (hkd.resolve_left k1)] at q1
        exact absurd q1 hb
  · have e : c_q 2 0 5 = qSt (c 2 0 5) v := by
      rcases hX with ⟨r, _⟩ | ⟨_, r, _⟩ | ⟨_, _, _, r, _⟩ | ⟨_, _, r, _⟩
      · exact absurd s1 r
      · exact absurd r q1
      · exact r
      · omega
    have sa := qSt_all hK (hv s1)
    have hb : qBt kn v ≠ 1 := fun z => q1 (a2 v (hv s1) z)
    have bt : ∀ u, qVr u → qBt (c 2 0 5) u = 1 → qBt (qSt (c 2 0 5) v) u = 1 := fun u hu z => by
      by_cases eu : u = v
      · rw [eu]; exact sa.2.2.1
      · rw [qBt_other hK (hv s1) hu eu]; exact z
    rw [e]
    refine ⟨all (Or.inr (Or.inl ⟨by rw [n80]; exact s1, by rw [n81]; exact hv s1, ?_⟩)), fun u hu z => bt u hu (a2 u hu z), fun k => ⟨fun u hu z => ?_, fun j j0 j1 j2 => ?_⟩, fun k => by omega⟩
    · rw [n81]
      refine Or.inr (Or.inr (Or.inl ⟨q2, q3, q4, hb, fun j j0 j1 j2 ej => ?_⟩))
      rw [o80 j j1] at j2
      rw [o81 j j1] at ej
      have := (a3 q2).2 j j0 j1 j2
      rw [ej] at this
      exact q1 this
    · by_cases eu : u = v
      · exact Or.inr ⟨i, hi, by omega, by rw [n80]; exact s1, q3, by rw [eu]; exact q4, by rw [eu]; exact n81⟩
      · rw [qBt_other hK (hv s1) hu eu] at z
        exact ((a3 k).1 u hu z).imp id (keep u)
    · by_cases ej : j = i
      · rw [ej, n81]; exact sa.2.2.1
      · rw [o80 j (by omega)] at j2
        rw [o81 j (by omega)]
        have q := a1 j j0 (by omega)
        have hu : qVr (m 81 0 (j + x)) := by
          unfold qAo at q
          rcases q with q | q | q
          · omega
          · exact q.2.1
          · omega
        exact bt _ hu ((a3 k).2 j j0 (by omega) j2)
  · have e : c_q 2 0 5 = c 2 0 5 := by
      rcases hX with ⟨r, _⟩ | ⟨_, r, _⟩ | ⟨_, _, r, _⟩ | ⟨_, _, _, r, _⟩
      · exact absurd s1 r
      · exact absurd r q1
      · omega
      · exact r
    refine same e (fun _ z => by omega) (Or.inr (Or.inl ⟨by rw [n80]; exact s1, by rw [n81]; exact hv s1, ?_⟩))
    rw [n81]
    refine Or.inr (Or.inr (Or.inr ⟨q2, q3, ?_⟩))
    rw [← a4 q2]
    exact q1
  · have e : c_q 2 0 5 = c 2 0 5 := by
      rcases hX with ⟨_, r, _⟩ | ⟨r, _⟩ | ⟨r, _⟩ | ⟨r, _⟩
      · exact r
      · omega
      · omega
      · omega
    exact same e (fun z => by omega) (Or.inr (Or.inr ⟨q1, by rw [n80]; exact s2⟩))
/-- the ARG that guides: a CONSTANT, or KNOWN ahead of the ATOM -/
noncomputable def gGd (kn G i : Int) (c : rHp) : Prop := -1 ≤ c 10 G 9 ∧ c 10 G 9 < i ∧ (0 ≤ c 10 G 9 → c 43 G (c 10 G 9) = 0 ∨ c 43 G (c 10 G 9) = 1 ∧ qBt kn (c 44 G (c 10 G 9)) = 1)
theorem gGd_up {kn G i : Int} {c c_q : rHp} (h : gGd kn G i c) (h10 : c_q 10 G 9 = c 10 G 9) (h43 : c_q 43 G = c 43 G) (h44 : c_q 44 G = c 44 G) : gGd kn G i c_q := by
  unfold gGd at h ⊢
  rw [h10, h43, h44]
  exact h
theorem gGd_add {kn G i : Int} {c c_q : rHp} (h : gGd kn G i c) (hi : 0 ≤ i) (h10 : c_q 10 G 9 = c 10 G 9) (hk : ∀ j, j ≠ i → c_q 43 G j = c 43 G j ∧ c_q 44 G j = c 44 G j ∧ c_q 46 G j = c 46 G j) : gGd kn G (i + 1) c_q := by
  obtain ⟨a1, a2, a3⟩ := h
  unfold gGd
  rw [h10]
  refine ⟨a1, by omega, fun z => ?_⟩
  obtain ⟨e1, e2, e3⟩ := hk (c 10 G 9) (by omega)
  rw [e1, e2]
  exact a3 z
