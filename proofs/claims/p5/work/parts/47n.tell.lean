/-! ===== tell by both ===== -/
/-- what holds of both between calls -/
def Rel (B : Int) (c m : rHp) : Prop :=
  (c 2 0 3 = m 15 0 3 ∧ 0 ≤ m 15 0 3 ∧ m 15 0 3 ≤ 2000 ∧ ∀ j, 0 ≤ j → j < m 15 0 3 → c 21 0 j = m 59 0 j ∧ -128 ≤ m 59 0 j ∧ m 59 0 j ≤ 127) ∧ qNc c ∧ qNm m ∧ 2 * c 3 0 1 + m 15 0 3 ≤ B ∧ qP c (rUp m 15 0 14 (m 15 0 13)) ∧
  (c 1 0 10 = m 15 0 32 ∧ 0 ≤ c 1 0 10 ∧ c 1 0 10 ≤ 60) ∧ (c 1 0 9 = m 15 0 17 ∧ 0 ≤ c 1 0 9 ∧ c 1 0 9 ≤ 400) ∧ FR c (rUp m 15 0 14 (m 15 0 13)) (c 1 0 9)
theorem qP_less {c m c' m' : rHp} (h : qP c m) (h16 : c' 16 = c 16) (h17 : c' 17 = c 17) (h64 : m' 64 = m 64) (h65 : m' 65 = m 65) (h66 : m' 66 = m 66) (h7 : c' 1 0 7 = m' 15 0 14) (h0 : 0 ≤ m' 15 0 14) (h1 : m' 15 0 14 ≤ m 15 0 14) : qP c' m' := by
  obtain ⟨a1, a2, a3, a4⟩ := h
  refine ⟨h7, h0, by omega, fun p p0 p1 => ?_⟩
  rw [h16, h17, h64, h65, h66]
  exact a4 p p0 (by omega)
theorem FR_less {c m c' m' : rHp} {n n' : Int} (h : FR c m n) (hn : n' ≤ n) (h3 : c' 3 = c 3) (h26 : c' 26 = c 26) (h19 : c' 19 = c 19) (h20 : c' 20 = c 20) (h8 : m' 15 0 8 = m 15 0 8) (h9 : m' 15 0 9 = m 15 0 9) (h61 : m' 61 = m 61) (h62 : m' 62 = m 62) (h63 : m' 63 = m 63) (h66 : m' 66 = m 66) (h67 : m' 67 = m 67) (h68 : m' 68 = m 68) (hp : ∀ f, 0 ≤ f → f < n' → m 67 0 f < m' 15 0 14) : FR c' m' n' := by
  intro f f0 f1
  obtain ⟨a1, ⟨a2, a3, a4⟩, a5, a6⟩ := h f f0 (by omega)
  rw [h19, h20, h66, h67, h68]
  exact ⟨a1, ⟨a2, hp f f0 f1, a4⟩, fun k k0 k1 => vR_up (a5 k k0 k1) h3 h26 h8 h9 h61 h62 h63, a6⟩
theorem en166_go {cS c c1 : rHp} {n L h : Int} (hn : n < 2000) (h1 : fn114 [] c = (0, L, c1)) (hL : 0 ≤ L) (hh : h = 9 * cS 40 0 (c 1 0 10)) : en166 cS (0, [1, n], c) = .inl (0, [(qC1 h c1).2.1, n + 1], (qC1 h c1).2.2) := by
  have f131 : ∀ x (g : rHp), (fn131 x g).2.2 = g := fun x g => rfl
  unfold en166 qC1 qC2
  simp only [zLet, List.getD_cons_zero, List.getD_cons_succ, ↓reduceIte, h1, f131, ← hh]
  rw [if_neg (show ¬ (1 : Int) = 0 by decide), if_neg (show ¬ n ≥ 2000 by omega), if_pos hL]
  by_cases b1 : 1 ≤ (fn146 [] c1).2.1
  · rw [if_pos b1, if_pos b1]
    by_cases b2 : 0 ≤ (fn114 [] (fn146 [] c1).2.2).2.1
    · rw [if_pos b2, if_pos b2]
      by_cases b3 : (fn114 [] (fn146 [] c1).2.2).2.1 ≠ 46
      · rw [if_pos b3, if_pos b3]
        by_cases b4 : 1 ≤ (fn151 [h] (fn114 [] (fn146 [] c1).2.2).2.2).2.1
        · rw [if_pos b4, if_pos b4]
          by_cases b5 : 1 ≤ (fn158 [] (fn151 [h] (fn114 [] (fn146 [] c1).2.2).2.2).2.2).2.1
          · rw [if_pos b5, if_pos b5]
          · rw [if_neg b5, if_neg b5]
        · rw [if_neg b4, if_neg b4]
      · rw [if_neg b3, if_neg b3]
        by_cases b4 : 1 ≤ (fn150 [h] (fn114 [] (fn146 [] c1).2.2).2.2).2.1
        · rw [if_pos b4, if_pos b4]
        · rw [if_neg b4, if_neg b4]
    · rw [if_neg b2, if_neg b2]
  · rw [if_neg b1, if_neg b1]
theorem fn163_fr (c : rHp) : fH 2 [0, 8] [] c (fn163 [] c).2.2 := by
  unfold fn163 fn162
  simp only [zLet, List.getD_cons_zero]
  exact fH_grp (fH_grp (fH_grp fH_refl (by decide) (by decide)) (by decide) (by decide)) (by decide) (by decide)
theorem en166_end {cS c c1 : rHp} {n L : Int} (h1 : fn114 [] c = (0, L, c1)) (hL : ¬ 0 ≤ L) : ∃ c', en166 cS (0, [1, n], c) = .inr (0, n, c') ∧ ((c' 2 0 3 = 0 ∧ fH 2 [0, 8] [3] c c') ∨ (c' 2 0 3 = 0 ∧ fH 2 [0, 8] [3] c1 c')) := by
  have f112 : ∀ g : rHp, (fn112 [] g).2.2 = rUp g 2 0 3 0 := fun g => rfl
  have f124 : ∀ g : rHp, (fn124 [] g).2.2 = g := fun g => by
    unfold fn124
    simp only [zLet]
    split
    · rfl
    · split <;> rfl
  have key : ∀ g : rHp, (fn163 [] (rUp g 2 0 3 0)).2.2 2 0 3 = 0 ∧ fH 2 [0, 8] [3] g (fn163 [] (rUp g 2 0 3 0)).2.2 := fun g => by
    have f := fn163_fr (rUp g 2 0 3 0)
    exact ⟨by rw [f.2 3 (by decide), rUp_at], fH_trans (fH_fld fH_refl (by decide)) (fH_sub f (by decide) (by decide))⟩
  have key2 : ∀ g : rHp, rUp g 2 0 3 0 2 0 3 = 0 ∧ fH 2 [0, 8] [3] g (rUp g 2 0 3 0) := fun g => ⟨rUp_at, fH_fld fH_refl (by decide)⟩
  unfold en166
  simp only [zLet, List.getD_cons_zero, List.getD_cons_succ, ↓reduceIte, h1, f112, f124]
  rw [if_neg (show ¬ (1 : Int) = 0 by decide)]
  by_cases b1 : n ≥ 2000
  · rw [if_pos b1]
    by_cases b2 : 1 ≤ (fn124 [] (rUp c 2 0 3 0)).2.1
    · rw [if_pos b2]; exact ⟨_, rfl, Or.inl (key c)⟩
    · rw [if_neg b2]; exact ⟨_, rfl, Or.inl (key2 c)⟩
  · rw [if_neg b1, if_neg hL]
    by_cases b2 : 1 ≤ (fn124 [] (rUp c1 2 0 3 0)).2.1
    · rw [if_pos b2]; exact ⟨_, rfl, Or.inr (key c1)⟩
    · rw [if_neg b2]; exact ⟨_, rfl, Or.inr (key2 c1)⟩
theorem en166_bad {cS c : rHp} {n : Int} : ∃ v, en166 cS (0, [0, n], c) = .inr (0, v, rUp (rUp (rUp (rUp c 2 0 3 0) 1 0 7 (c 1 0 11)) 1 0 9 (c 1 0 12)) 1 0 10 (c 1 0 13)) := by
  refine ⟨-c 2 0 4 + (-1), ?_⟩
  have f112 : ∀ g : rHp, (fn112 [] g).2.2 = rUp g 2 0 3 0 := fun g => rfl
  unfold en166 fn161
  simp only [zLet, List.getD_cons_zero, List.getD_cons_succ, ↓reduceIte, f112, rUp_grp (show (1 : Nat) ≠ 2 by decide)]
/-- what holds between CLAUSES of a text that is told, beside qK -/
def qTe (cS mS c m : rHp) : Prop := (c 1 0 11 = m 15 0 13 ∧ c 1 0 12 = m 15 0 17 ∧ c 1 0 13 = m 15 0 32) ∧ (0 ≤ m 15 0 18 ∧ 0 ≤ m 15 0 33) ∧ (0 ≤ m 15 0 13 ∧ m 15 0 13 ≤ m 15 0 14) ∧ (∀ f, 0 ≤ f → f < m 15 0 17 → m 67 0 f < m 15 0 13) ∧ c 40 = cS 40 ∧ mS 15 0 3 = m 15 0 34 ∧ m 15 0 3 = 0 ∧ mS 15 0 32 = m 15 0 32 ∧ mS 15 0 17 = m 15 0 17 ∧ mS 15 0 13 = m 15 0 13 ∧ 0 ≤ m 15 0 32 ∧ m 15 0 34 ≤ 2000 ∧ 0 ≤ m 15 0 17
theorem tell_end {N0 : Int} {cS mS c m c' : rHp} {n B : Int} (hK : qK N0 c m) (hT : qTe cS mS c m) (hB : 2 * N0 + m 15 0 34 ≤ B) (hc3 : c' 2 0 3 = 0) (hc : fH 2 [0, 8] [3, 6] c c') (hm : m 15 0 34 ≤ m 15 0 35) : ∃ m', en51 mS (0, [n], m) = .inr (0, n, m') ∧ Rel B c' m' := by
  obtain ⟨k1, k2, k3, k4, k5, k6, k7, k8, k9, k10⟩ := hK
  obtain ⟨t1, t2, t3, t4, t5, t6, t7, t8, t9, t10, t11, t12, t13⟩ := hT
  have st : ∃ m', en51 mS (0, [n], m) = .inr (0, n, m') ∧ fH 15 [] [13, 17, 32, 59, 93] m m' ∧ m' 15 0 13 = m 15 0 14 ∧ m' 15 0 17 = m 15 0 18 + m 15 0 17 ∧ m' 15 0 32 = m 15 0 33 + m 15 0 32 := by
    unfold en51 fn50
    simp only [zLet, List.getD_cons_zero, ↓reduceIte]
    rw [if_pos (show m 15 0 35 ≥ mS 15 0 3 by omega), t8, t9]
    by_cases b : m 15 0 33 + m 15 0 18 ≤ 0
    · rw [if_pos b]
      refine ⟨_, rfl, fH_fld (fH_fld (fH_fld fH_refl (by decide)) (by decide)) (by decide), ?_, ?_, ?_⟩
      · rw [rUp_ne (by decide), rUp_ne (by decide), rUp_at]
      · rw [rUp_ne (by decide), rUp_at]
      · rw [rUp_at]
    · rw [if_neg b]
      refine ⟨_, rfl, fH_fld (fH_fld (fH_fld (fH_fld (fH_fld fH_refl (by decide)) (by decide)) (by decide)) (by decide)) (by decide), ?_, ?_, ?_⟩
      · rw [rUp_ne (by decide), rUp_ne (by decide), rUp_ne (by decide), rUp_ne (by decide), rUp_at]
      · rw [rUp_ne (by decide), rUp_ne (by decide), rUp_ne (by decide), rUp_at]
      · rw [rUp_ne (by decide), rUp_ne (by decide), rUp_at]
  obtain ⟨m', e, f, e13, e17, e32⟩ := st
  have e3 : m' 15 0 3 = 0 := (f.2 3 (by decide)).trans t7
  have e14 : m' 15 0 14 = m 15 0 14 := f.2 14 (by decide)
  have same : rUp m' 15 0 14 (m' 15 0 13) = m' := rUp_self (by rw [e14, e13])
  refine ⟨m', e, ⟨by rw [hc3, e3], by rw [e3]; decide, by rw [e3]; decide, fun j j0 j1 => by rw [e3] at j1; omega⟩, ?_, ?_, ?_, ?_, ?_, ?_, ?_⟩
  · unfold qNc
    rw [hc.1 3 (by decide) (by decide), hc.1 26 (by decide) (by decide)]; exact k3
  · unfold qNm
    rw [f.2 8 (by decide), f.2 9 (by decide), f.1 61 (by decide) (by decide), f.1 62 (by decide) (by decide), f.1 63 (by decide) (by decide)]; exact k4
  · rw [e3, hc.1 3 (by decide) (by decide)]
    have := k7.2.2
    have := k2.2.2
    omega
  · rw [same]
    exact qP_up k5 (by rw [hc.1 1 (by decide) (by decide)]) (hc.1 16 (by decide) (by decide)) (hc.1 17 (by decide) (by decide)) e14 (f.1 64 (by decide) (by decide)) (f.1 65 (by decide) (by decide)) (f.1 66 (by decide) (by decide))
  · rw [hc.1 1 (by decide) (by decide), e32]; omega
  · rw [hc.1 1 (by decide) (by decide), e17]; omega
  · rw [same, hc.1 1 (by decide) (by decide)]
    exact FR_less k10 (Int.le_refl _) (hc.1 3 (by decide) (by decide)) (hc.1 26 (by decide) (by decide)) (hc.1 19 (by decide) (by decide)) (hc.1 20 (by decide) (by decide)) (f.2 8 (by decide)) (f.2 9 (by decide)) (f.1 61 (by decide) (by decide)) (f.1 62 (by decide) (by decide)) (f.1 63 (by decide) (by decide)) (f.1 66 (by decide) (by decide)) (f.1 67 (by decide) (by decide)) (f.1 68 (by decide) (by decide)) (fun x x0 x1 => by rw [e14]; exact (k10 x x0 x1).2.1.2.1)
theorem tell_bad {N0 : Int} {cS mS c m c' m' : rHp} {B : Int} (hK : qK N0 c m) (hT : qTe cS mS c m) (hB : 2 * N0 + m 15 0 34 + 1 ≤ B) (hb : qKb N0 c m c' m') : Rel B (rUp (rUp (rUp (rUp c' 2 0 3 0) 1 0 7 (c' 1 0 11)) 1 0 9 (c' 1 0 12)) 1 0 10 (c' 1 0 13)) (rUp m' 15 0 14 (mS 15 0 13)) := by
  obtain ⟨k1, k2, k3, k4, k5, k6, k7, k8, k9, k10⟩ := hK
  obtain ⟨t1, t2, t3, t4, t5, t6, t7, t8, t9, t10, t11, t12, t13⟩ := hT
  obtain ⟨b1, b2, b3, b4, b5, b6, b7, b8, b9, b10, b11, b12⟩ := hb
  have fc : fH 2 [1] [3] c' (rUp (rUp (rUp (rUp c' 2 0 3 0) 1 0 7 (c' 1 0 11)) 1 0 9 (c' 1 0 12)) 1 0 10 (c' 1 0 13)) := fH_grp (fH_grp (fH_grp (fH_fld fH_refl (by decide)) (by decide) (by decide)) (by decide) (by decide)) (by decide) (by decide)
  have x3 : rUp (rUp (rUp (rUp c' 2 0 3 0) 1 0 7 (c' 1 0 11)) 1 0 9 (c' 1 0 12)) 1 0 10 (c' 1 0 13) 2 0 3 = 0 := by rw [rUp_grp (by decide), rUp_grp (by decide), rUp_grp (by decide), rUp_at]
  have x7 : rUp (rUp (rUp (rUp c' 2 0 3 0) 1 0 7 (c' 1 0 11)) 1 0 9 (c' 1 0 12)) 1 0 10 (c' 1 0 13) 1 0 7 = c' 1 0 11 := by rw [rUp_ne (by decide), rUp_ne (by decide), rUp_at]
  have x9 : rUp (rUp (rUp (rUp c' 2 0 3 0) 1 0 7 (c' 1 0 11)) 1 0 9 (c' 1 0 12)) 1 0 10 (c' 1 0 13) 1 0 9 = c' 1 0 12 := by rw [rUp_ne (by decide), rUp_at]
  have x10 : rUp (rUp (rUp (rUp c' 2 0 3 0) 1 0 7 (c' 1 0 11)) 1 0 9 (c' 1 0 12)) 1 0 10 (c' 1 0 13) 1 0 10 = c' 1 0 13 := rUp_at
  have fm : fH 15 [] [14] m' (rUp m' 15 0 14 (mS 15 0 13)) := fH_fld fH_refl (by decide)
  have y14 : rUp m' 15 0 14 (mS 15 0 13) 15 0 14 = mS 15 0 13 := rUp_at
  generalize rUp (rUp (rUp (rUp c' 2 0 3 0) 1 0 7 (c' 1 0 11)) 1 0 9 (c' 1 0 12)) 1 0 10 (c' 1 0 13) = c2 at *
  generalize rUp m' 15 0 14 (mS 15 0 13) = m2 at *
  have e : ∀ j, j ∉ [(14 : Int)] → j ∉ jU → m2 15 0 j = m 15 0 j := fun j z1 z2 => (fm.2 j z1).trans (b9.2 j z2)
  have e13 : m2 15 0 13 = m 15 0 13 := e 13 (by decide) (by decide)
  have e3 : m2 15 0 3 = 0 := (e 3 (by decide) (by decide)).trans t7
  have same : rUp m2 15 0 14 (m2 15 0 13) = m2 := rUp_self (by rw [y14, e13]; exact t10)
  have c11 : c' 1 0 11 = m 15 0 13 := (b8 11 (by decide)).trans t1.1
  have c12 : c' 1 0 12 = m 15 0 17 := (b8 12 (by decide)).trans t1.2.1
  have c13 : c' 1 0 13 = m 15 0 32 := (b8 13 (by decide)).trans t1.2.2
  refine ⟨⟨by rw [x3, e3], by rw [e3]; decide, by rw [e3]; decide, fun j j0 j1 => by rw [e3] at j1; omega⟩, ?_, ?_, ?_, ?_, ?_, ?_, ?_⟩
  · unfold qNc
    rw [fc.1 3 (by decide) (by decide), fc.1 26 (by decide) (by decide)]; exact b1
  · unfold qNm
    rw [fm.2 8 (by decide), fm.2 9 (by decide), fm.1 61 (by decide) (by decide), fm.1 62 (by decide) (by decide), fm.1 63 (by decide) (by decide)]; exact b2
  · rw [e3, fc.1 3 (by decide) (by decide)]; omega
  · rw [same]
    exact qP_less b3 (fc.1 16 (by decide) (by decide)) (fc.1 17 (by decide) (by decide)) (fm.1 64 (by decide) (by decide)) (fm.1 65 (by decide) (by decide)) (fm.1 66 (by decide) (by decide)) (by rw [x7, c11, y14, t10]) (by rw [y14, t10]; exact t3.1) (by rw [y14, t10]; omega)
  · rw [x10, c13, e 32 (by decide) (by decide)]; omega
  · rw [x9, c12, e 17 (by decide) (by decide)]
    have := k9.2.1
    exact ⟨rfl, t13, by omega⟩
  · rw [same, x9, c12]
    exact FR_less b11 (by omega) (fc.1 3 (by decide) (by decide)) (fc.1 26 (by decide) (by decide)) (fc.1 19 (by decide) (by decide)) (fc.1 20 (by decide) (by decide)) (fm.2 8 (by decide)) (fm.2 9 (by decide)) (fm.1 61 (by decide) (by decide)) (fm.1 62 (by decide) (by decide)) (fm.1 63 (by decide) (by decide)) (fm.1 66 (by decide) (by decide)) (fm.1 67 (by decide) (by decide)) (fm.1 68 (by decide) (by decide)) (fun x x0 x1 => by rw [y14, t10, b12]; exact t4 x x0 x1)
