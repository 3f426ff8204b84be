/-! ===== tell by both ===== -/
/-- what holds of both between calls -/
noncomputable def Rel (B : Int) (c m : rHp) : Prop :=
  (c 2 0 3 = m 15 0 3 ∧ 0 ≤ m 15 0 3 ∧ m 15 0 3 ≤ 2000 ∧ ∀ j, 0 ≤ j → j < m 15 0 3 → c 21 0 j = m 59 0 j ∧ -128 ≤ m 59 0 j ∧ m 59 0 j ≤ 127) ∧ qNc c ∧ qNm m ∧ 2 * c 3 0 1 + m 15 0 3 ≤ B ∧ qP c (rUp m 15 0 14 (m 15 0 13)) ∧
  (c 1 0 10 = m 15 0 32 ∧ 0 ≤ c 1 0 10 ∧ c 1 0 10 ≤ 60) ∧ (c 1 0 9 = m 15 0 17 ∧ 0 ≤ c 1 0 9 ∧ c 1 0 9 ≤ 400) ∧ FR c (rUp m 15 0 14 (m 15 0 13)) (c 1 0 9)
theorem qP_less {c m c_q m_q : rHp} (h : qP c m) (h16 : c_q 16 = c 16) (h17 : c_q 17 = c 17) (h64 : m_q 64 = m 64) (h65 : m_q 65 = m 65) (h66 : m_q 66 = m 66) (h7 : c_q 1 0 7 = m_q 15 0 14) (h0 : 0 ≤ m_q 15 0 14) (h1 : m_q 15 0 14 ≤ m 15 0 14) : qP c_q m_q := by
  obtain ⟨a1, a2, a3, a4⟩ := h
  refine ⟨h7, h0, by omega, fun p p0 p1 => ?_⟩
  rw [h16, h17, h64, h65, h66]
  exact a4 p p0 (by omega)
theorem FR_less {c m c_q m_q : rHp} {n n_q : Int} (h : FR c m n) (hn : n_q ≤ n) (h3 : c_q 3 = c 3) (h26 : c_q 26 = c 26) (h19 : c_q 19 = c 19) (h20 : c_q 20 = c 20) (h8 : m_q 15 0 8 = m 15 0 8) (h9 : m_q 15 0 9 = m 15 0 9) (h61 : m_q 61 = m 61) (h62 : m_q 62 = m 62) (h63 : m_q 63 = m 63) (h66 : m_q 66 = m 66) (h67 : m_q 67 = m 67) (h68 : m_q 68 = m 68) (hp : ∀ f, 0 ≤ f → f < n_q → m 67 0 f < m_q 15 0 14) : FR c_q m_q n_q := by
  intro f f0 f1
  obtain ⟨a1, ⟨a2, a3, a4⟩, a5, a6⟩ := h f f0 (by omega)
  rw [h19, h20, h66, h67, h68]
  exact ⟨a1, ⟨a2, hp f f0 f1, a4⟩, fun k k0 k1 => vR_up (a5 k k0 k1) h3 h26 h8 h9 h61 h62 h63, a6⟩
/-- RULES by both between calls: as many, each what it is; NAMES of the same numbers -/
noncomputable def yU (c m : rHp) : Prop := (∀ i j, 0 ≤ i → i ≤ 60 → 0 ≤ j → j ≤ 60 → c 40 0 i = c 40 0 j → i = j) ∧ sN c m ∧ ∀ r, 0 ≤ r → r < m 15 0 32 → gR2 True r (c 40 0 r) c (rUp m 15 0 14 (m 15 0 13))
/-- the same between CLAUSES -/
noncomputable def yT (c m : rHp) : Prop := (∀ i j, 0 ≤ i → i ≤ 60 → 0 ≤ j → j ≤ 60 → c 40 0 i = c 40 0 j → i = j) ∧ sN c m ∧ (∀ r, 0 ≤ r → r < m 15 0 32 → gR2 True r (c 40 0 r) c (rUp m 15 0 14 (m 15 0 13))) ∧ ∀ r, m 15 0 32 ≤ r → r < m 15 0 32 + m 15 0 33 → gR2 True r (c 40 0 r) c m
theorem fE_13 {r : Int} {m m_q : rHp} (h : fE r m m_q) (h13 : m_q 15 0 13 = m 15 0 13) (hl : m 15 0 13 ≤ m 15 0 14) : fE r (rUp m 15 0 14 (m 15 0 13)) (rUp m_q 15 0 14 (m_q 15 0 13)) := by
  obtain ⟨e1, e2, e3, e4, e5, e6⟩ := h
  have g : ∀ (x : rHp) (v : Int) (K : Nat), K ≠ 15 → rUp x 15 0 14 v K = x K := fun x v K z => rUp_grp z
  refine ⟨fun K x z1 z2 => ?_, fun K x z1 z2 => ?_, fun K x z1 z2 => ?_, fun K x z1 z2 => ?_, ?_, fun p z => ?_⟩
  · rw [g _ _ K (by omega), g _ _ K (by omega)]; exact e1 K x z1 z2
  · rw [g _ _ K (by omega), g _ _ K (by omega)]; exact e2 K x z1 z2
  · rw [g _ _ K (by omega), g _ _ K (by omega)]; exact e3 K x z1 z2
  · rw [g _ _ K (by omega), g _ _ K (by omega)]; exact e4 K x z1 z2
  · rw [rUp_at, rUp_at, h13]; exact Int.le_refl _
  · rw [rUp_at] at z
    rw [g _ _ 66 (by decide), g _ _ 66 (by decide)]
    exact e6 p (by omega)
/-- a CLAUSE leaves the RULES ahead of it -/
theorem yT_g {c m c_q m_q : rHp} (h : yT c m) (hg : qCg c m c_q m_q) (h10 : c 1 0 10 = m 15 0 32 + m 15 0 33) (h0 : 0 ≤ c 1 0 10 ∧ c 1 0 10 ≤ 60) (h33 : 0 ≤ m 15 0 33) (h32 : 0 ≤ m 15 0 32) (hl : m 15 0 13 ≤ m 15 0 14) (e13 : m_q 15 0 13 = m 15 0 13) (e32 : m_q 15 0 32 = m 15 0 32) :
    (∀ i j, 0 ≤ i → i ≤ 60 → 0 ≤ j → j ≤ 60 → c_q 40 0 i = c_q 40 0 j → i = j) ∧ sN c_q m_q ∧ (∀ r, 0 ≤ r → r < m_q 15 0 32 → gR2 True r (c_q 40 0 r) c_q (rUp m_q 15 0 14 (m_q 15 0 13))) ∧ ∀ r, m_q 15 0 32 ≤ r → r < m_q 15 0 32 + m 15 0 33 → gR2 True r (c_q 40 0 r) c_q m_q := by
  obtain ⟨a1, a2, a3, a4⟩ := h
  obtain ⟨g1, g2, g3⟩ := hg
  have nr : ∀ r, 0 ≤ r → r < c 1 0 10 → c 40 0 r ≠ c 40 0 (c 1 0 10) := fun r r0 r1 z => by
    have := a1 r (c 1 0 10) r0 (by omega) h0.1 h0.2 z
    omega
  rw [g1.1, e32]
  refine ⟨a1, g3 a2, fun r r0 r1 => ?_, fun r r0 r1 => ?_⟩
  · exact gR2_DE (a3 r r0 r1) g1 (fE_13 g2 e13 hl) (nr r r0 (by omega)) (by omega)
  · exact gR2_DE (a4 r r0 r1) g1 g2 (nr r (by omega) (by omega)) (by omega)
theorem yT_n {c m c_q m_q : rHp} (h : yT c m) (hn : qCn c m c_q m_q) (h10 : c 1 0 10 = m 15 0 32 + m 15 0 33) (h0 : 0 ≤ c 1 0 10 ∧ c 1 0 10 ≤ 60) (h33 : 0 ≤ m 15 0 33) (h32 : 0 ≤ m 15 0 32) (hl : m 15 0 13 ≤ m 15 0 14) (e13 : m_q 15 0 13 = m 15 0 13) (e32 : m_q 15 0 32 = m 15 0 32) : yT c_q m_q := by
  obtain ⟨b1, b2, b3, b4⟩ := yT_g h hn.1 h10 h0 h33 h32 hl e13 e32
  refine ⟨b1, b2, b3, fun r r0 r1 => ?_⟩
  rcases hn.2 with ⟨z1, z2, _⟩ | ⟨z1, z2, z3⟩
  · exact b4 r r0 (by omega)
  · by_cases e : r < m_q 15 0 32 + m 15 0 33
    · exact b4 r r0 e
    · have er : r = m 15 0 33 + m 15 0 32 := by omega
      rw [er, hn.1.1.1, show m 15 0 33 + m 15 0 32 = c 1 0 10 by omega]
      rw [show m 15 0 33 + m 15 0 32 = c 1 0 10 by omega] at z3
      exact gR2_E z3 (fun _ => h.2.1)
/-- what was asked is gone -/
noncomputable def qo8 (g c_q : rHp) : Prop := c_q 8 (g 0 0 5) 1 = 0 ∧ c_q 8 (g 0 0 5) 2 = 0 ∧ ∀ h j, ¬ (h = g 0 0 5 ∧ (j = 1 ∨ j = 2)) → c_q 8 h j = g 8 h j
/-- how a text ends that is told -/
noncomputable def qEn (g c_q : rHp) : Prop := c_q 2 0 3 = 0 ∧ fH 2 [0, 8] [3, 6] g c_q ∧ (∀ j, j ≠ 7 → c_q 0 0 j = g 0 0 j) ∧ ((g 1 0 9 = g 1 0 12 ∧ g 1 0 10 = g 1 0 13 ∧ c_q 0 0 7 = g 0 0 7 ∧ c_q 8 = g 8) ∨ (¬ (g 1 0 9 = g 1 0 12 ∧ g 1 0 10 = g 1 0 13) ∧ c_q 0 0 7 = 0 ∧ qo8 g c_q))
theorem en166_go {cS c c1 : rHp} {n L h : Int} (hn : n < 2000) (h1 : fn114 [] c = (0, L, c1)) (hL : 0 ≤ L) (hh : h = 9 * cS 40 0 (c 1 0 10)) : en166 cS (0, [1, n], c) = .inl (0, [(qC1 h c1).2.1, n + 1], (qC1 h c1).2.2) := by
  have f131 : ∀ x (g : rHp), (fn131 x g).2.2 = g := fun x g => rfl
  unfold en166 qC1 qC2
  simp only [zLet, List.getD_cons_zero, List.getD_cons_succ, ↓reduceIte, h1, f131, ← hh]
  rw [if_neg (show ¬ (1 : Int) = 0 by decide), if_neg (show ¬ n ≥ 2000 by omega), if_pos hL]
  by_cases b1 : 1 ≤ (fn146 [] c1).2.1
  · rw [if_pos b1, if_pos b1]
    by_cases b2 : 0 ≤ (fn114 [] (fn146 [] c1).2.2).2.1
    · rw [if_pos b2, if_pos b2]
      by_cases b3 : (fn114 [] (fn146 [] c1).2.2).2.1 ≠ 46
      · rw [if_pos b3, if_pos b3]
        by_cases b4 : 1 ≤ (fn151 [h] (fn114 [] (fn146 [] c1).2.2).2.2).2.1
        · rw [if_pos b4, if_pos b4]
          by_cases b5 : 1 ≤ (fn158 [] (fn151 [h] (fn114 [] (fn146 [] c1).2.2).2.2).2.2).2.1
          · rw [if_pos b5, if_pos b5]
          · rw [if_neg b5, if_neg b5]
        · rw [if_neg b4, if_neg b4]
      · rw [if_neg b3, if_neg b3]
        by_cases b4 : 1 ≤ (fn150 [h] (fn114 [] (fn146 [] c1).2.2).2.2).2.1
        · rw [if_pos b4, if_pos b4]
        · rw [if_neg b4, if_neg b4]
    · rw [if_neg b2, if_neg b2]
  · rw [if_neg b1, if_neg b1]
theorem fn163_fr (c : rHp) : fH 2 [0, 8] [] c (fn163 [] c).2.2 := by
  unfold fn163 fn162
  simp only [zLet, List.getD_cons_zero]
  exact fH_grp (fH_grp (fH_grp fH_refl (by decide) (by decide)) (by decide) (by decide)) (by decide) (by decide)
theorem fn163_8 (g : rHp) : (∀ j, j ≠ 7 → (fn163 [] g).2.2 0 0 j = g 0 0 j) ∧ (fn163 [] g).2.2 0 0 7 = 0 ∧ qo8 g (fn163 [] g).2.2 := by
  have e : (fn163 [] g).2.2 = rUp (rUp (rUp g 0 0 7 0) 8 (g 0 0 5) 1 0) 8 (g 0 0 5) 2 0 := rfl
  rw [e]
  refine ⟨fun j z => ?_, ?_, ?_, ?_, fun h j z => ?_⟩
  · rw [rUp_grp (by decide), rUp_grp (by decide), rUp_ne (fun w => z w.2.2)]
  · rw [rUp_grp (by decide), rUp_grp (by decide), rUp_at]
  · rw [rUp_ne (fun w => absurd w.2.2 (by decide)), rUp_at]
  · rw [rUp_at]
  · rw [rUp_ne (fun w => z ⟨w.2.1, Or.inr w.2.2⟩), rUp_ne (fun w => z ⟨w.2.1, Or.inl w.2.2⟩), rUp_grp (by decide)]
theorem en166_end {cS c c1 : rHp} {n L q : Int} (h1 : fn114 [] c = (0, L, c1)) (hq : c1 = rUp c 2 0 6 q) (hL : ¬ 0 ≤ L) : ∃ c_q, en166 cS (0, [1, n], c) = .inr (0, n, c_q) ∧ qEn c1 c_q := by
  have f112 : ∀ g : rHp, (fn112 [] g).2.2 = rUp g 2 0 3 0 := fun g => rfl
  have f124 : ∀ g : rHp, (fn124 [] g).2.2 = g := fun g => by
    unfold fn124
    simp only [zLet]
    split
    · rfl
    · split <;> rfl
  have v124 : ∀ g : rHp, 1 ≤ (fn124 [] g).2.1 ↔ ¬ (g 1 0 9 = g 1 0 12 ∧ g 1 0 10 = g 1 0 13) := fun g => by
    unfold fn124
    simp only [zLet]
    by_cases a : g 1 0 9 ≠ g 1 0 12
    · rw [if_pos a]
      exact ⟨fun _ z => a z.1, fun _ => show (1 : Int) ≤ 1 by decide⟩
    · rw [if_neg a]
      by_cases b : g 1 0 10 = g 1 0 13
      · rw [if_pos b]
        exact ⟨fun z => absurd z (show ¬ (1 : Int) ≤ 0 by decide), fun z => absurd ⟨Decidable.of_not_not a, b⟩ z⟩
      · rw [if_neg b]
        exact ⟨fun _ z => b z.2, fun _ => show (1 : Int) ≤ 1 by decide⟩
  have one : ∀ g : rHp, rUp g 2 0 3 0 1 = g 1 := fun g => rUp_grp (by decide)
  have f01 : fH 2 [] [6] c c1 := by rw [hq]; exact fH_fld fH_refl (by decide)
  have key : ∀ g : rHp, fH 2 [] [6] g c1 → 1 ≤ (fn124 [] (rUp g 2 0 3 0)).2.1 → qEn c1 (fn163 [] (rUp g 2 0 3 0)).2.2 := fun g hg hv => by
    have f := fn163_fr (rUp g 2 0 3 0)
    obtain ⟨k1, k2, k3⟩ := fn163_8 (rUp g 2 0 3 0)
    have e0 : rUp g 2 0 3 0 0 = c1 0 := by rw [rUp_grp (by decide), hg.1 0 (by decide) (by decide)]
    have e8 : rUp g 2 0 3 0 8 = c1 8 := by rw [rUp_grp (by decide), hg.1 8 (by decide) (by decide)]
    have e1 : g 1 = c1 1 := (hg.1 1 (by decide) (by decide)).symm
    have w := (v124 _).1 hv
    rw [one, e1] at w
    refine ⟨by rw [f.2 3 (by decide), rUp_at], fH_trans (fH_trans (fH_symm (fH_sub hg (by decide) (by decide))) (fH_fld fH_refl (by decide))) (fH_sub f (by decide) (by decide)), fun j z => by rw [k1 j z, e0], Or.inr ⟨w, k2, ?_⟩⟩
    unfold qo8 at k3 ⊢
    rw [e0, e8] at k3
    exact k3
  have key2 : ∀ g : rHp, fH 2 [] [6] g c1 → ¬ 1 ≤ (fn124 [] (rUp g 2 0 3 0)).2.1 → qEn c1 (rUp g 2 0 3 0) := fun g hg hv => by
    have w := Decidable.of_not_not (fun z => hv ((v124 _).2 z))
    rw [one, (hg.1 1 (by decide) (by decide)).symm] at w
    exact ⟨rUp_at, fH_trans (fH_symm (fH_sub hg (by decide) (by decide))) (fH_fld fH_refl (by decide)), fun j _ => by rw [rUp_grp (by decide), hg.1 0 (by decide) (by decide)], Or.inl ⟨w.1, w.2, by rw [rUp_grp (by decide), hg.1 0 (by decide) (by decide)], by rw [rUp_grp (by decide), hg.1 8 (by decide) (by decide)]⟩⟩
  unfold en166
  simp only [zLet, List.getD_cons_zero, List.getD_cons_succ, ↓reduceIte, h1, f112, f124]
  rw [if_neg (show ¬ (1 : Int) = 0 by decide)]
  by_cases b1 : n ≥ 2000
  · rw [if_pos b1]
    by_cases b2 : 1 ≤ (fn124 [] (rUp c 2 0 3 0)).2.1
    · rw [if_pos b2]; exact ⟨_, rfl, key c f01 b2⟩
    · rw [if_neg b2]; exact ⟨_, rfl, key2 c f01 b2⟩
  · rw [if_neg b1, if_neg hL]
    by_cases b2 : 1 ≤ (fn124 [] (rUp c1 2 0 3 0)).2.1
    · rw [if_pos b2]; exact ⟨_, rfl, key c1 fH_refl b2⟩
    · rw [if_neg b2]; exact ⟨_, rfl, key2 c1 fH_refl b2⟩
theorem en166_bad {cS c : rHp} {n : Int} : ∃ v, en166 cS (0, [0, n], c) = .inr (0, v, rUp (rUp (rUp (rUp c 2 0 3 0) 1 0 7 (c 1 0 11)) 1 0 9 (c 1 0 12)) 1 0 10 (c 1 0 13)) := by
  refine ⟨-c 2 0 4 + (-1), ?_⟩
  have f112 : ∀ g : rHp, (fn112 [] g).2.2 = rUp g 2 0 3 0 := fun g => rfl
  unfold en166 fn161
  simp only [zLet, List.getD_cons_zero, List.getD_cons_succ, ↓reduceIte, f112, rUp_grp (show (1 : Nat) ≠ 2 by decide)]
/-- what holds between CLAUSES of a text that is told, beside qK -/
noncomputable def qTe (cS mS c m : rHp) : Prop := (c 1 0 11 = m 15 0 13 ∧ c 1 0 12 = m 15 0 17 ∧ c 1 0 13 = m 15 0 32) ∧ (0 ≤ m 15 0 18 ∧ 0 ≤ m 15 0 33) ∧ (0 ≤ m 15 0 13 ∧ m 15 0 13 ≤ m 15 0 14) ∧ (∀ f, 0 ≤ f → f < m 15 0 17 → m 67 0 f < m 15 0 13) ∧ c 40 = cS 40 ∧ mS 15 0 3 = m 15 0 34 ∧ m 15 0 3 = 0 ∧ mS 15 0 32 = m 15 0 32 ∧ mS 15 0 17 = m 15 0 17 ∧ mS 15 0 13 = m 15 0 13 ∧ 0 ≤ m 15 0 32 ∧ m 15 0 34 ≤ 2000 ∧ 0 ≤ m 15 0 17
/-- how a text ends that is told, by both -/
noncomputable def yEd (c m c_q m_q : rHp) : Prop := fH 2 [0, 8] [3, 6] c c_q ∧ (∀ j, j ≠ 7 → c_q 0 0 j = c 0 0 j) ∧ fH 15 [] [13, 17, 32, 59, 93] m m_q ∧ ((c_q 0 0 7 = c 0 0 7 ∧ c_q 8 = c 8 ∧ m_q 15 0 59 = m 15 0 59 ∧ m_q 15 0 93 = m 15 0 93 ∧ m_q 15 0 13 = m 15 0 13) ∨ (c_q 0 0 7 = 0 ∧ qo8 c c_q ∧ m_q 15 0 59 = 0 ∧ m_q 15 0 93 = 0))
theorem gR2_all {E : Prop} {r R : Int} {c m c_q m_q : rHp} (h : gR2 E r R c m) (hc : ∀ K : Nat, K = 9 ∨ K = 10 ∨ K = 43 ∨ K = 44 ∨ K = 46 → c_q K = c K) (hm : ∀ K : Nat, K = 66 ∨ K = 69 ∨ K = 70 ∨ K = 71 ∨ K = 72 ∨ K = 73 ∨ K = 76 ∨ K = 77 ∨ K = 78 ∨ K = 79 ∨ K = 80 ∨ K = 81 → m_q K = m K) (h14 : m 15 0 14 ≤ m_q 15 0 14) : gR2 E r R c_q m_q :=
  gR2_to h (by rw [hc 9 (by decide)]) (fun K g z _ _ => by rw [hc K (by omega)]) (fun K z => by rw [hm K (by omega)]) (fun K k z _ _ => by rw [hm K (by omega)]) (fun K k z _ _ => by rw [hm K (by omega)]) (fun K g j z _ _ _ _ => by rw [hm K (by omega)]) h14 (fun p _ => by rw [hm 66 (by decide)])
theorem tell_end {N0 : Int} {cS mS c m c_q : rHp} {n B : Int} (hK : qK N0 c m) (hT : qTe cS mS c m) (hB : 2 * N0 + m 15 0 34 ≤ B) (hEn : qEn c c_q) (hm : m 15 0 34 ≤ m 15 0 35) (h13 : m 15 0 33 + m 15 0 18 ≤ 0 → m 15 0 14 = m 15 0 13) : ∃ m_q, en51 mS (0, [n], m) = .inr (0, n, m_q) ∧ Rel B c_q m_q ∧ (yT c m → yU c_q m_q) ∧ yEd c m c_q m_q := by
  obtain ⟨hc3, hc, hc0, hcE⟩ := hEn
  obtain ⟨k1, k2, k3, k4, k5, k6, k7, k8, k9, k10⟩ := hK
  obtain ⟨t1, t2, t3, t4, t5, t6, t7, t8, t9, t10, t11, t12, t13⟩ := hT
  have st : ∃ m_q, en51 mS (0, [n], m) = .inr (0, n, m_q) ∧ fH 15 [] [13, 17, 32, 59, 93] m m_q ∧ m_q 15 0 13 = m 15 0 14 ∧ m_q 15 0 17 = m 15 0 18 + m 15 0 17 ∧ m_q 15 0 32 = m 15 0 33 + m 15 0 32 ∧ ((m 15 0 33 + m 15 0 18 ≤ 0 ∧ m_q 15 0 59 = m 15 0 59 ∧ m_q 15 0 93 = m 15 0 93) ∨ (¬ m 15 0 33 + m 15 0 18 ≤ 0 ∧ m_q 15 0 59 = 0 ∧ m_q 15 0 93 = 0)) := by
    unfold en51 fn50
    simp only [zLet, List.getD_cons_zero, ↓reduceIte]
    rw [if_pos (show m 15 0 35 ≥ mS 15 0 3 by omega), t8, t9]
    by_cases b : m 15 0 33 + m 15 0 18 ≤ 0
    · rw [if_pos b]
      refine ⟨_, rfl, fH_fld (fH_fld (fH_fld fH_refl (by decide)) (by decide)) (by decide), ?_, ?_, ?_, Or.inl ⟨b, by rw [rUp_ne (by decide), rUp_ne (by decide), rUp_ne (by decide)], by rw [rUp_ne (by decide), rUp_ne (by decide), rUp_ne (by decide)]⟩⟩
      · rw [rUp_ne (by decide), rUp_ne (by decide), rUp_at]
      · rw [rUp_ne (by decide), rUp_at]
      · rw [rUp_at]
    · rw [if_neg b]
      refine ⟨_, rfl, fH_fld (fH_fld (fH_fld (fH_fld (fH_fld fH_refl (by decide)) (by decide)) (by decide)) (by decide)) (by decide), ?_, ?_, ?_, Or.inr ⟨b, by rw [rUp_ne (by decide), rUp_at], rUp_at⟩⟩
      · rw [rUp_ne (by decide), rUp_ne (by decide), rUp_ne (by decide), rUp_ne (by decide), rUp_at]
      · rw [rUp_ne (by decide), rUp_ne (by decide), rUp_ne (by decide), rUp_at]
      · rw [rUp_ne (by decide), rUp_ne (by decide), rUp_at]
  obtain ⟨m_q, e, f, e13, e17, e32, eF⟩ := st
  have e3 : m_q 15 0 3 = 0 := (f.2 3 (by decide)).trans t7
  have e14 : m_q 15 0 14 = m 15 0 14 := f.2 14 (by decide)
  have same : rUp m_q 15 0 14 (m_q 15 0 13) = m_q := rUp_self (by rw [e14, e13])
  refine ⟨m_q, e, ⟨⟨by rw [hc3, e3], by rw [e3]; decide, by rw [e3]; decide, fun j j0 j1 => by rw [e3] at j1; omega⟩, ?_, ?_, ?_, ?_, ?_, ?_, ?_⟩, fun hy => ?_, hc, hc0, f, ?_⟩
  · unfold qNc
    rw [hc.1 3 (by decide) (by decide), hc.1 26 (by decide) (by decide)]; exact k3
  · unfold qNm
    rw [f.2 8 (by decide), f.2 9 (by decide), f.1 61 (by decide) (by decide), f.1 62 (by decide) (by decide), f.1 63 (by decide) (by decide)]; exact k4
  · rw [e3, hc.1 3 (by decide) (by decide)]
    have := k7.2.2
    have := k2.2.2
    omega
  · rw [same]
    exact qP_up k5 (by rw [hc.1 1 (by decide) (by decide)]) (hc.1 16 (by decide) (by decide)) (hc.1 17 (by decide) (by decide)) e14 (f.1 64 (by decide) (by decide)) (f.1 65 (by decide) (by decide)) (f.1 66 (by decide) (by decide))
  · rw [hc.1 1 (by decide) (by decide), e32]; omega
  · rw [hc.1 1 (by decide) (by decide), e17]; omega
  · rw [same, hc.1 1 (by decide) (by decide)]
    exact FR_less k10 (Int.le_refl _) (hc.1 3 (by decide) (by decide)) (hc.1 26 (by decide) (by decide)) (hc.1 19 (by decide) (by decide)) (hc.1 20 (by decide) (by decide)) (f.2 8 (by decide)) (f.2 9 (by decide)) (f.1 61 (by decide) (by decide)) (f.1 62 (by decide) (by decide)) (f.1 63 (by decide) (by decide)) (f.1 66 (by decide) (by decide)) (f.1 67 (by decide) (by decide)) (f.1 68 (by decide) (by decide)) (fun x x0 x1 => by rw [e14]; exact (k10 x x0 x1).2.1.2.1)
  · obtain ⟨y1, y2, y3, y4⟩ := hy
    refine ⟨by rw [hc.1 40 (by decide) (by decide)]; exact y1, sN_H y2 hc (by decide) f (by decide) (by decide), fun r r0 r1 => ?_⟩
    rw [same, hc.1 40 (by decide) (by decide)]
    have cc : ∀ K : Nat, K = 9 ∨ K = 10 ∨ K = 43 ∨ K = 44 ∨ K = 46 → c_q K = c K := fun K z => hc.1 K (by rcases z with rfl | rfl | rfl | rfl | rfl <;> decide) (by omega)
    have mm : ∀ K : Nat, K ≠ 15 → m_q K = m K := fun K z => f.1 K (by simp) z
    by_cases a : r < m 15 0 32
    · exact gR2_all (y3 r r0 a) cc (fun K z => by rw [mm K (by omega), rUp_grp (by omega)]) (by rw [rUp_at, e14]; exact t3.2)
    · exact gR2_all (y4 r (by omega) (by omega)) cc (fun K z => mm K (by omega)) (by rw [e14]; exact Int.le_refl _)
  · have i9 : c 1 0 9 = c 1 0 12 ↔ m 15 0 18 = 0 := by rw [t1.2.1, k9.1]; omega
    have i10 : c 1 0 10 = c 1 0 13 ↔ m 15 0 33 = 0 := by rw [t1.2.2, k8.1]; omega
    rcases hcE with ⟨z1, z2, z3, z4⟩ | ⟨z1, z2, z3⟩
    · rcases eF with ⟨w1, w2, w3⟩ | ⟨w1, w2, w3⟩
      · exact Or.inl ⟨z3, z4, w2, w3, by rw [e13]; exact h13 w1⟩
      · have := i9.1 z1
        have := i10.1 z2
        omega
    · rcases eF with ⟨w1, w2, w3⟩ | ⟨w1, w2, w3⟩
      · exact absurd ⟨i9.2 (by omega), i10.2 (by omega)⟩ z1
      · exact Or.inr ⟨z2, z3, w2, w3⟩
theorem tell_bad {N0 : Int} {cS mS c m c_q m_q : rHp} {B : Int} (hK : qK N0 c m) (hT : qTe cS mS c m) (hB : 2 * N0 + m 15 0 34 + 1 ≤ B) (hb : qKb N0 c m c_q m_q) (hg : qCg c m c_q m_q) : Rel B (rUp (rUp (rUp (rUp c_q 2 0 3 0) 1 0 7 (c_q 1 0 11)) 1 0 9 (c_q 1 0 12)) 1 0 10 (c_q 1 0 13)) (rUp m_q 15 0 14 (mS 15 0 13)) ∧ (yT c m → yU (rUp (rUp (rUp (rUp c_q 2 0 3 0) 1 0 7 (c_q 1 0 11)) 1 0 9 (c_q 1 0 12)) 1 0 10 (c_q 1 0 13)) (rUp m_q 15 0 14 (mS 15 0 13))) := by
  obtain ⟨k1, k2, k3, k4, k5, k6, k7, k8, k9, k10⟩ := hK
  obtain ⟨t1, t2, t3, t4, t5, t6, t7, t8, t9, t10, t11, t12, t13⟩ := hT
  obtain ⟨b1, b2, b3, b4, b5, b6, b7, b8, b9, b10, b11, b12⟩ := hb
  have fc : fH 2 [1] [3] c_q (rUp (rUp (rUp (rUp c_q 2 0 3 0) 1 0 7 (c_q 1 0 11)) 1 0 9 (c_q 1 0 12)) 1 0 10 (c_q 1 0 13)) := fH_grp (fH_grp (fH_grp (fH_fld fH_refl (by decide)) (by decide) (by decide)) (by decide) (by decide)) (by decide) (by decide)
  have x3 : rUp (rUp (rUp (rUp c_q 2 0 3 0) 1 0 7 (c_q 1 0 11)) 1 0 9 (c_q 1 0 12)) 1 0 10 (c_q 1 0 13) 2 0 3 = 0 := by rw [rUp_grp (by decide), rUp_grp (by decide), rUp_grp (by decide), rUp_at]
  have x7 : rUp (rUp (rUp (rUp c_q 2 0 3 0) 1 0 7 (c_q 1 0 11)) 1 0 9 (c_q 1 0 12)) 1 0 10 (c_q 1 0 13) 1 0 7 = c_q 1 0 11 := by rw [rUp_ne (by decide), rUp_ne (by decide), rUp_at]
  have x9 : rUp (rUp (rUp (rUp c_q 2 0 3 0) 1 0 7 (c_q 1 0 11)) 1 0 9 (c_q 1 0 12)) 1 0 10 (c_q 1 0 13) 1 0 9 = c_q 1 0 12 := by rw [rUp_ne (by decide), rUp_at]
  have x10 : rUp (rUp (rUp (rUp c_q 2 0 3 0) 1 0 7 (c_q 1 0 11)) 1 0 9 (c_q 1 0 12)) 1 0 10 (c_q 1 0 13) 1 0 10 = c_q 1 0 13 := rUp_at
  have fm : fH 15 [] [14] m_q (rUp m_q 15 0 14 (mS 15 0 13)) := fH_fld fH_refl (by decide)
  have y14 : rUp m_q 15 0 14 (mS 15 0 13) 15 0 14 = mS 15 0 13 := rUp_at
  generalize rUp (rUp (rUp (rUp c_q 2 0 3 0) 1 0 7 (c_q 1 0 11)) 1 0 9 (c_q 1 0 12)) 1 0 10 (c_q 1 0 13) = c2 at *
  generalize rUp m_q 15 0 14 (mS 15 0 13) = m2 at *
  have e : ∀ j, j ∉ [(14 : Int)] → j ∉ jU → m2 15 0 j = m 15 0 j := fun j z1 z2 => (fm.2 j z1).trans (b9.2 j z2)
  have e13 : m2 15 0 13 = m 15 0 13 := e 13 (by decide) (by decide)
  have e3 : m2 15 0 3 = 0 := (e 3 (by decide) (by decide)).trans t7
  have same : rUp m2 15 0 14 (m2 15 0 13) = m2 := rUp_self (by rw [y14, e13]; exact t10)
  have yy : yT c m → yU c2 m2 := fun hy => by
    obtain ⟨y1, y2, y3, _⟩ := yT_g hy hg k8.1 k8.2 t2.2 t11 t3.2 (b9.2 13 (by decide)) (b9.2 32 (by decide))
    refine ⟨by rw [fc.1 40 (by decide) (by decide)]; exact y1, sN_H y2 fc (by decide) fm (by decide) (by decide), fun r r0 r1 => ?_⟩
    rw [e 32 (by decide) (by decide)] at r1
    rw [fc.1 40 (by decide) (by decide), same]
    exact gR2_all (y3 r r0 (by rw [b9.2 32 (by decide)]; exact r1)) (fun K z => fc.1 K (by rcases z with rfl | rfl | rfl | rfl | rfl <;> decide) (by omega)) (fun K z => by rw [fm.1 K (by simp) (by omega), rUp_grp (by omega)]) (by rw [rUp_at, y14, t10, b9.2 13 (by decide)]; exact Int.le_refl _)
  have c11 : c_q 1 0 11 = m 15 0 13 := (b8 11 (by decide)).trans t1.1
  have c12 : c_q 1 0 12 = m 15 0 17 := (b8 12 (by decide)).trans t1.2.1
  have c13 : c_q 1 0 13 = m 15 0 32 := (b8 13 (by decide)).trans t1.2.2
  refine ⟨⟨⟨by rw [x3, e3], by rw [e3]; decide, by rw [e3]; decide, fun j j0 j1 => by rw [e3] at j1; omega⟩, ?_, ?_, ?_, ?_, ?_, ?_, ?_⟩, yy⟩
  · unfold qNc
    rw [fc.1 3 (by decide) (by decide), fc.1 26 (by decide) (by decide)]; exact b1
  · unfold qNm
    rw [fm.2 8 (by decide), fm.2 9 (by decide), fm.1 61 (by decide) (by decide), fm.1 62 (by decide) (by decide), fm.1 63 (by decide) (by decide)]; exact b2
  · rw [e3, fc.1 3 (by decide) (by decide)]; omega
  · rw [same]
    exact qP_less b3 (fc.1 16 (by decide) (by decide)) (fc.1 17 (by decide) (by decide)) (fm.1 64 (by decide) (by decide)) (fm.1 65 (by decide) (by decide)) (fm.1 66 (by decide) (by decide)) (by rw [x7, c11, y14, t10]) (by rw [y14, t10]; exact t3.1) (by rw [y14, t10]; omega)
  · rw [x10, c13, e 32 (by decide) (by decide)]; omega
  · rw [x9, c12, e 17 (by decide) (by decide)]
    have := k9.2.1
    exact ⟨rfl, t13, by omega⟩
  · rw [same, x9, c12]
    exact FR_less b11 (by omega) (fc.1 3 (by decide) (by decide)) (fc.1 26 (by decide) (by decide)) (fc.1 19 (by decide) (by decide)) (fc.1 20 (by decide) (by decide)) (fm.2 8 (by decide)) (fm.2 9 (by decide)) (fm.1 61 (by decide) (by decide)) (fm.1 62 (by decide) (by decide)) (fm.1 63 (by decide) (by decide)) (fm.1 66 (by decide) (by decide)) (fm.1 67 (by decide) (by decide)) (fm.1 68 (by decide) (by decide)) (fun x x0 x1 => by rw [y14, t10, b12]; exact t4 x x0 x1)
