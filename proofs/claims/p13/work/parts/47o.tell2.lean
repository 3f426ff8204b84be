/-! ===== the loop of tell; tell ===== -/
theorem qK_look {N0 : Int} {c m : rHp} {q : Int} (hK : qK N0 c m) (h1 : m 15 0 35 ≤ q) (h2 : q ≤ m 15 0 34) : qK N0 (rUp c 2 0 6 q) (rUp m 15 0 35 q) := by
  obtain ⟨k1, k2, k3, k4, k5, k6, k7, k8, k9, k10⟩ := hK
  have fc : fH 2 [] [6] c (rUp c 2 0 6 q) := fH_fld fH_refl (by decide)
  have fm : fH 15 [] [35] m (rUp m 15 0 35 q) := fH_fld fH_refl (by decide)
  have t6 : rUp c 2 0 6 q 2 0 6 = q := rUp_at
  have u35 : rUp m 15 0 35 q 15 0 35 = q := rUp_at
  have := k2.2.1
  have := k7.2.2
  generalize rUp c 2 0 6 q = c_q at *
  generalize rUp m 15 0 35 q = m_q at *
  refine ⟨qT_up k1 (fc.2 3 (by decide)) (fc.1 21 (by decide) (by decide)) (fm.2 34 (by decide)) (fm.1 59 (by decide) (by decide)), ⟨by rw [t6, u35], by rw [u35]; omega, by rw [u35, fm.2 34 (by decide)]; exact h2⟩, ?_, ?_, qP_up k5 (by rw [fc.1 1 (by decide) (by decide)]) (fc.1 16 (by decide) (by decide)) (fc.1 17 (by decide) (by decide)) (fm.2 14 (by decide)) (fm.1 64 (by decide) (by decide)) (fm.1 65 (by decide) (by decide)) (fm.1 66 (by decide) (by decide)), by rw [fc.2 7 (by decide)]; exact k6, ⟨k7.1, by rw [fm.2 34 (by decide)]; exact k7.2.1, by rw [fc.1 3 (by decide) (by decide), u35]; omega⟩, by rw [fc.1 1 (by decide) (by decide), fm.2 32 (by decide), fm.2 33 (by decide)]; exact k8, by rw [fc.1 1 (by decide) (by decide), fm.2 17 (by decide), fm.2 18 (by decide)]; exact k9, ?_⟩
  · unfold qNc
    rw [fc.1 3 (by decide) (by decide), fc.1 26 (by decide) (by decide)]; exact k3
  · unfold qNm
    rw [fm.2 8 (by decide), fm.2 9 (by decide), fm.1 61 (by decide) (by decide), fm.1 62 (by decide) (by decide), fm.1 63 (by decide) (by decide)]; exact k4
  · rw [fc.1 1 (by decide) (by decide)]
    exact FR_less k10 (Int.le_refl _) (fc.1 3 (by decide) (by decide)) (fc.1 26 (by decide) (by decide)) (fc.1 19 (by decide) (by decide)) (fc.1 20 (by decide) (by decide)) (fm.2 8 (by decide)) (fm.2 9 (by decide)) (fm.1 61 (by decide) (by decide)) (fm.1 62 (by decide) (by decide)) (fm.1 63 (by decide) (by decide)) (fm.1 66 (by decide) (by decide)) (fm.1 67 (by decide) (by decide)) (fm.1 68 (by decide) (by decide)) (fun x x0 x1 => by rw [fm.2 14 (by decide)]; exact (k10 x x0 x1).2.1.2.1)
theorem qTe_up {cS mS c m c_q m_q : rHp} (h : qTe cS mS c m) (h1 : ∀ j, j = 11 ∨ j = 12 ∨ j = 13 → c_q 1 0 j = c 1 0 j) (h40 : c_q 40 = c 40) (hj : ∀ j, j = 3 ∨ j = 13 ∨ j = 17 ∨ j = 32 ∨ j = 34 → m_q 15 0 j = m 15 0 j) (h18 : m 15 0 18 ≤ m_q 15 0 18) (h33 : m 15 0 33 ≤ m_q 15 0 33) (h14 : m 15 0 14 ≤ m_q 15 0 14) (h67 : ∀ f, f < m 15 0 17 → m_q 67 0 f = m 67 0 f) : qTe cS mS c_q m_q := by
  obtain ⟨t1, t2, t3, t4, t5, t6, t7, t8, t9, t10, t11, t12, t13⟩ := h
  unfold qTe
  rw [h1 11 (by omega), h1 12 (by omega), h1 13 (by omega), h40, hj 3 (by omega), hj 13 (by omega), hj 17 (by omega), hj 32 (by omega), hj 34 (by omega)]
  refine ⟨t1, ⟨by omega, by omega⟩, ⟨t3.1, by omega⟩, fun f f0 f1 => by rw [h67 f f1]; exact t4 f f0 f1, t5, t6, t7, t8, t9, t10, t11, t12, t13⟩
theorem en51_go {mS m : rHp} {n : Int} (h : m 15 0 35 < mS 15 0 3) : en51 mS (0, [n], m) = if 1 ≤ (fn49 [] m).2.1 then .inl (0, [n + 1], (fn7 [] (fn49 [] m).2.2).2.2) else .inr (0, -(fn49 [] m).2.2 15 0 36 + (-1), rUp (fn49 [] m).2.2 15 0 14 (mS 15 0 13)) := by
  unfold en51
  simp only [zLet, List.getD_cons_zero, ↓reduceIte]
  rw [if_neg (show ¬ m 15 0 35 ≥ mS 15 0 3 by omega)]
theorem yT_look {c m : rHp} {q : Int} (h : yT c m) : yT (rUp c 2 0 6 q) (rUp m 15 0 35 q) := by
  have fc : fH 2 [] [6] c (rUp c 2 0 6 q) := fH_fld fH_refl (by decide)
  have fm : fH 15 [] [35] m (rUp m 15 0 35 q) := fH_fld fH_refl (by decide)
  generalize rUp c 2 0 6 q = c_q at *
  generalize rUp m 15 0 35 q = m_q at *
  obtain ⟨y1, y2, y3, y4⟩ := h
  have cc : ∀ K : Nat, K ≠ 2 → c_q K = c K := fun K z => fc.1 K (by simp) z
  have mm : ∀ K : Nat, K ≠ 15 → m_q K = m K := fun K z => fm.1 K (by simp) z
  unfold yT
  rw [cc 40 (by decide), fm.2 32 (by decide), fm.2 33 (by decide), fm.2 13 (by decide)]
  refine ⟨y1, sN_H y2 fc (by decide) fm (by decide) (by decide), fun r r0 r1 => ?_, fun r r0 r1 => ?_⟩
  · exact gR2_all (y3 r r0 r1) (fun K z => cc K (by omega)) (fun K z => by rw [rUp_grp (by omega), rUp_grp (by omega), mm K (by omega)]) (by rw [rUp_at, rUp_at]; exact Int.le_refl _)
  · exact gR2_all (y4 r r0 r1) (fun K z => cc K (by omega)) (fun K z => mm K (by omega)) (by rw [fm.2 14 (by decide)]; exact Int.le_refl _)
noncomputable def lTT : List Nat := [0, 8, 9, 10, 24, 25, 43, 44, 45, 46, 1, 3, 16, 17, 22, 23, 26, 1000, 19, 20]
noncomputable def jTT : List Int := [3, 4, 5, 6, 7, 8, 9, 10, 13, 16]
noncomputable def jUV : List Int := [0, 3, 34, 35, 36, 37, 38, 39, 40, 45, 46, 47, 48, 49, 50, 58, 8, 9, 14, 18, 33, 44]
noncomputable def jUU : List Int := [13, 17, 32, 59, 93, 0, 3, 34, 35, 36, 37, 38, 39, 40, 45, 46, 47, 48, 49, 50, 58, 8, 9, 14, 18, 33, 44]
/-- what a text that is told leaves as it is, on the way -/
noncomputable def yFl (cB mB c m : rHp) : Prop := fH 2 lT jTT cB c ∧ c 1 0 8 = cB 1 0 8 ∧ fH 15 lU jUV mB m
/-- and in the end -/
noncomputable def yFin (c m c_q m_q : rHp) : Prop := fH 2 lTT jTT c c_q ∧ (∀ j, j ≠ 7 → c_q 0 0 j = c 0 0 j) ∧ c_q 1 0 8 = c 1 0 8 ∧ fH 15 lU jUU m m_q ∧ ((c_q 0 0 7 = c 0 0 7 ∧ c_q 8 = c 8 ∧ m_q 15 0 59 = m 15 0 59 ∧ m_q 15 0 93 = m 15 0 93 ∧ m_q 15 0 13 = m 15 0 13) ∨ (c_q 0 0 7 = 0 ∧ qo8 c c_q ∧ m_q 15 0 59 = 0 ∧ m_q 15 0 93 = 0))
theorem yFl_look {cB mB c m : rHp} {q : Int} (h : yFl cB mB c m) : yFl cB mB (rUp c 2 0 6 q) (rUp m 15 0 35 q) :=
  ⟨fH_fld h.1 (by decide), by rw [rUp_grp (by decide)]; exact h.2.1, fH_fld h.2.2 (by decide)⟩
theorem yFin_of {cB mB c m c_q m_q : rHp} (h : yFl cB mB c m) (hd : yEd c m c_q m_q) : yFin cB mB c_q m_q := by
  obtain ⟨a1, a2, a3⟩ := h
  obtain ⟨d1, d2, d3, d4⟩ := hd
  have e0 : c 0 = cB 0 := a1.1 0 (by decide) (by decide)
  have e8 : c 8 = cB 8 := a1.1 8 (by decide) (by decide)
  refine ⟨fH_trans (fH_sub a1 (by decide) (by decide)) (fH_sub d1 (by decide) (by decide)), fun j z => by rw [d2 j z, e0], by rw [d1.1 1 (by decide) (by decide)]; exact a2, fH_trans (fH_sub a3 (by decide) (by decide)) (fH_sub d3 (by decide) (by decide)), ?_⟩
  rcases d4 with ⟨z1, z2, z3, z4, z5⟩ | ⟨z1, z2, z3, z4⟩
  · exact Or.inl ⟨by rw [z1, e0], by rw [z2, e8], by rw [z3, a3.2 59 (by decide)], by rw [z4, a3.2 93 (by decide)], by rw [z5, a3.2 13 (by decide)]⟩
  · refine Or.inr ⟨z1, ?_, z3, z4⟩
    unfold qo8 at z2 ⊢
    rw [e0, e8] at z2
    exact z2
theorem tell_loop {N0 B : Int} {cS mS cB mB : rHp} {Y : Prop} : ∀ (k : Nat) (n : Int) (c m : rHp), (Y → yT c m) → yFl cB mB c m → (m 15 0 33 + m 15 0 18 ≤ 0 → m 15 0 14 = m 15 0 13) → (m 15 0 34 - m 15 0 35).toNat ≤ k → 0 ≤ n → n ≤ m 15 0 35 → 2 * N0 + m 15 0 34 + 1 ≤ B → qK N0 c m → qTe cS mS c m →
    ∃ v c_q v_q m_q, zLoop (en166 cS) (0, [1, n], c) = (0, v, c_q) ∧ zLoop (en51 mS) (0, [n], (fn7 [] m).2.2) = (0, v_q, m_q) ∧ Rel B c_q m_q ∧ (Y → yU c_q m_q) ∧ yFin cB mB c_q m_q := by
  intro k
  induction k with
  | zero =>
    intro n c m hy hf h13 hk hn0 hn hB hK hT
    obtain ⟨q, L, l1, l2, l3, l4, l5, l6, l7⟩ := look_two hK.1 hK.2.1 [] []
    have hq : ¬ q < m 15 0 34 := by omega
    obtain ⟨c_q, e1, e2⟩ := en166_end (cS := cS) (n := n) l1 rfl (fun z => hq (l6.1 z))
    have hT_q : qTe cS mS (rUp c 2 0 6 q) (rUp m 15 0 35 q) := qTe_up hT (fun j _ => by rw [rUp_grp (by decide)]) (rUp_grp (by decide)) (fun j z => rUp_ne (fun y => by have := y.2.2; omega)) (by rw [rUp_ne (by decide)]; exact Int.le_refl _) (by rw [rUp_ne (by decide)]; exact Int.le_refl _) (by rw [rUp_ne (by decide)]; exact Int.le_refl _) (fun f _ => by rw [rUp_grp (by decide)])
    obtain ⟨m_q, e3, e4, e5, e6⟩ := tell_end (cS := cS) (mS := mS) (n := n) (B := B) (qK_look hK l3 l4) hT_q (by rw [rUp_ne (by decide)]; omega) e2 (by rw [rUp_ne (by decide), rUp_at]; omega) (by rw [rUp_ne (by decide), rUp_ne (by decide), rUp_ne (by decide), rUp_ne (by decide)]; exact h13)
    rw [l2]
    exact ⟨n, c_q, n, m_q, zLoop_inr e1, zLoop_inr e3, e4, fun y => e5 (yT_look (hy y)), yFin_of (yFl_look hf) e6⟩
  | succ k ih =>
    intro n c m hy hf h13 hk hn0 hn hB hK hT
    obtain ⟨q, L, l1, l2, l3, l4, l5, l6, l7⟩ := look_two hK.1 hK.2.1 [] []
    have hT_q : qTe cS mS (rUp c 2 0 6 q) (rUp m 15 0 35 q) := qTe_up hT (fun j _ => by rw [rUp_grp (by decide)]) (rUp_grp (by decide)) (fun j z => rUp_ne (fun y => by have := y.2.2; omega)) (by rw [rUp_ne (by decide)]; exact Int.le_refl _) (by rw [rUp_ne (by decide)]; exact Int.le_refl _) (by rw [rUp_ne (by decide)]; exact Int.le_refl _) (fun f _ => by rw [rUp_grp (by decide)])
    have hK_q := qK_look hK l3 l4
    have u34 : rUp m 15 0 35 q 15 0 34 = m 15 0 34 := rUp_ne (by decide)
    have u35 : rUp m 15 0 35 q 15 0 35 = q := rUp_at
    by_cases hq : q < m 15 0 34
    · have h3 := hT.2.2.2.2.2.1
      have h2000 := hT.2.2.2.2.2.2.2.2.2.2.2.1
      have hh : 9 * rUp c 2 0 6 q 40 0 (rUp c 2 0 6 q 1 0 10) = 9 * cS 40 0 (c 1 0 10) := by rw [rUp_grp (by decide), rUp_grp (by decide), hT.2.2.2.2.1]
      have g1 := en166_go (cS := cS) (n := n) (by omega) l1 (l6.2 hq) hh
      have g2 := en51_go (mS := mS) (m := rUp m 15 0 35 q) (n := n) (by rw [u35]; omega)
      rw [l2]
      simp only
      have hy1 : Y → yT (rUp c 2 0 6 q) (rUp m 15 0 35 q) := fun y => yT_look (hy y)
      have hf1 : yFl cB mB (rUp c 2 0 6 q) (rUp m 15 0 35 q) := yFl_look hf
      have h131 : rUp m 15 0 35 q 15 0 33 + rUp m 15 0 35 q 15 0 18 ≤ 0 → rUp m 15 0 35 q 15 0 14 = rUp m 15 0 35 q 15 0 13 := by rw [rUp_ne (by decide), rUp_ne (by decide), rUp_ne (by decide), rUp_ne (by decide)]; exact h13
      have hq0 : (0 : Int) ≤ q := by have := hK.2.1.2.1; omega
      generalize rUp c 2 0 6 q = c1 at *
      generalize rUp m 15 0 35 q = m1 at *
      rcases clause_two hK_q rfl (by rw [u34]; omega) with ⟨c_q, m_q, y1, y2, y3, y4, y5⟩ | ⟨c_q, m_q, y1, y2, y3, y4⟩
      · rw [y1] at g1
        rw [y2, if_pos (show (1 : Int) ≤ 1 by decide)] at g2
        simp only at g1 g2
        obtain ⟨d1, d2, d3, d4, d5, d6, d7, d8, d9, d10⟩ := y4
        have w34 : m_q 15 0 34 = m 15 0 34 := (d5.2 34 (by decide)).trans u34
        have hT2 : qTe cS mS c_q m_q := qTe_up hT_q (fun j z => d4 j (by omega) (by omega) (by omega)) (d3.1 40 (by decide) (by decide)) (fun j z => d5.2 j (by rcases z with rfl | rfl | rfl | rfl | rfl <;> decide)) d8 d9 d6 (fun f z => d7 f (by have := hT_q.2.1.1; omega))
        have k8 := hK_q.2.2.2.2.2.2.2.1
        have e13 : m_q 15 0 13 = m1 15 0 13 := d5.2 13 (by decide)
        have n13 : m_q 15 0 33 + m_q 15 0 18 ≤ 0 → m_q 15 0 14 = m_q 15 0 13 := fun z => by
          have t2 := hT_q.2.1
          rcases y5.2 with ⟨w1, w2, w3 | w3⟩ | ⟨w1, w2, _⟩
          · omega
          · rw [w3.2, e13]
            exact h131 (by omega)
          · omega
        obtain ⟨v, c2, v_q, m2, z1, z2, z3⟩ := ih (n + 1) c_q m_q (fun y => yT_n (hy1 y) y5 k8.1 k8.2 hT_q.2.1.2 hT_q.2.2.2.2.2.2.2.2.2.2.1 hT_q.2.2.1.2 e13 (d5.2 32 (by decide))) ⟨fH_trans hf1.1 (fH_sub d3 (by decide) (by decide)), (d4 8 (by decide) (by decide) (by decide)).trans hf1.2.1, fH_trans hf1.2.2 (fH_sub d5 (by decide) (by decide))⟩ n13 (by omega) (by omega) (by omega) (by rw [w34]; exact hB) y3 hT2
        exact ⟨v, c2, v_q, m2, (zLoop_inl g1).trans z1, (zLoop_inl g2).trans z2, z3⟩
      · rw [y1] at g1
        rw [y2, if_neg (show ¬ (1 : Int) ≤ 0 by decide)] at g2
        simp only at g1 g2
        obtain ⟨v, e3⟩ := en166_bad (cS := cS) (c := c_q) (n := n + 1)
        obtain ⟨w1, w2⟩ := tell_bad hK_q hT_q (by rw [u34]; exact hB) y3 y4
        refine ⟨v, _, _, _, (zLoop_inl g1).trans (zLoop_inr e3), zLoop_inr g2, w1, fun y => w2 (hy1 y), ?_⟩
        obtain ⟨_, _, _, _, _, _, b7, b8, b9, _⟩ := y3
        have fc2 : fH 2 [1] [3] c_q (rUp (rUp (rUp (rUp c_q 2 0 3 0) 1 0 7 (c_q 1 0 11)) 1 0 9 (c_q 1 0 12)) 1 0 10 (c_q 1 0 13)) := fH_grp (fH_grp (fH_grp (fH_fld fH_refl (by decide)) (by decide) (by decide)) (by decide) (by decide)) (by decide) (by decide)
        have x8 : rUp (rUp (rUp (rUp c_q 2 0 3 0) 1 0 7 (c_q 1 0 11)) 1 0 9 (c_q 1 0 12)) 1 0 10 (c_q 1 0 13) 1 0 8 = c_q 1 0 8 := by rw [rUp_ne (by decide), rUp_ne (by decide), rUp_ne (by decide), rUp_grp (by decide)]
        have fm2 : fH 15 [] [14] m_q (rUp m_q 15 0 14 (mS 15 0 13)) := fH_fld fH_refl (by decide)
        generalize rUp (rUp (rUp (rUp c_q 2 0 3 0) 1 0 7 (c_q 1 0 11)) 1 0 9 (c_q 1 0 12)) 1 0 10 (c_q 1 0 13) = c2 at *
        generalize rUp m_q 15 0 14 (mS 15 0 13) = m2 at *
        have FC : fH 2 lT jTT cB c2 := fH_trans (fH_trans hf1.1 (fH_sub b7 (by decide) (by decide))) (fH_sub fc2 (by decide) (by decide))
        have FM : fH 15 lU jUV mB m2 := fH_trans (fH_trans hf1.2.2 (fH_sub b9 (by decide) (by decide))) (fH_sub fm2 (by decide) (by decide))
        exact ⟨fH_sub FC (by decide) (by decide), fun j _ => by rw [FC.1 0 (by decide) (by decide)], by rw [x8, b8 8 (by decide)]; exact hf1.2.1, fH_sub FM (by decide) (by decide), Or.inl ⟨by rw [FC.1 0 (by decide) (by decide)], FC.1 8 (by decide) (by decide), FM.2 59 (by decide), FM.2 93 (by decide), FM.2 13 (by decide)⟩⟩
    · obtain ⟨c_q, e1, e2⟩ := en166_end (cS := cS) (n := n) l1 rfl (fun z => hq (l6.1 z))
      obtain ⟨m_q, e3, e4, e5, e6⟩ := tell_end (cS := cS) (mS := mS) (n := n) (B := B) hK_q hT_q (by rw [u34]; omega) e2 (by rw [u34, u35]; omega) (by rw [rUp_ne (by decide), rUp_ne (by decide), rUp_ne (by decide), rUp_ne (by decide)]; exact h13)
      rw [l2]
      exact ⟨n, c_q, n, m_q, zLoop_inr e1, zLoop_inr e3, e4, fun y => e5 (yT_look (hy y)), yFin_of (yFl_look hf) e6⟩
/-- tell keeps what holds between calls -/
theorem tell_two {B : Int} {c m : rHp} (h : Rel B c m) (hB : B ≤ 10239) : ∃ v c_q v_q m_q, fn166 [] c = (0, v, c_q) ∧ fn51 [] m = (0, v_q, m_q) ∧ Rel (B + 1) c_q m_q ∧ (yU c m → yU c_q m_q) ∧ yFin c m c_q m_q := by
  obtain ⟨r1, r2, r3, r4, r5, r6, r7, r8⟩ := h
  have e1 : fn166 [] c = zLoop (en166 c) (0, [1, 0], rUp (rUp (rUp (rUp (rUp (rUp (rUp (rUp c 1 0 11 (c 1 0 7)) 1 0 12 (c 1 0 9)) 1 0 13 (c 1 0 10)) 2 0 7 0) 2 0 6 0) 2 0 13 0) 2 0 16 0) 2 0 5 0) := rfl
  have e2 : fn51 [] m = zLoop (en51 m) (0, [0], (fn7 [] (rUp (rUp (rUp (rUp (rUp (rUp (rUp m 15 0 0 0) 15 0 34 (rUp m 15 0 0 0 15 0 3)) 15 0 3 0) 15 0 35 0) 15 0 14 (m 15 0 13)) 15 0 18 0) 15 0 33 0)).2.2) := rfl
  rw [show rUp m 15 0 0 0 15 0 3 = m 15 0 3 from rUp_ne (by decide)] at e2
  have fc : fH 2 [1] [5, 6, 7, 13, 16] c (rUp (rUp (rUp (rUp (rUp (rUp (rUp (rUp c 1 0 11 (c 1 0 7)) 1 0 12 (c 1 0 9)) 1 0 13 (c 1 0 10)) 2 0 7 0) 2 0 6 0) 2 0 13 0) 2 0 16 0) 2 0 5 0) := fH_fld (fH_fld (fH_fld (fH_fld (fH_fld (fH_grp (fH_grp (fH_grp fH_refl (by decide) (by decide)) (by decide) (by decide)) (by decide) (by decide)) (by decide)) (by decide)) (by decide)) (by decide)) (by decide)
  have one : ∀ j, rUp (rUp (rUp (rUp (rUp (rUp (rUp (rUp c 1 0 11 (c 1 0 7)) 1 0 12 (c 1 0 9)) 1 0 13 (c 1 0 10)) 2 0 7 0) 2 0 6 0) 2 0 13 0) 2 0 16 0) 2 0 5 0 1 0 j = rUp (rUp (rUp c 1 0 11 (c 1 0 7)) 1 0 12 (c 1 0 9)) 1 0 13 (c 1 0 10) 1 0 j := fun j => by rw [rUp_grp (by decide), rUp_grp (by decide), rUp_grp (by decide), rUp_grp (by decide), rUp_grp (by decide)]
  have x6 : rUp (rUp (rUp (rUp (rUp (rUp (rUp (rUp c 1 0 11 (c 1 0 7)) 1 0 12 (c 1 0 9)) 1 0 13 (c 1 0 10)) 2 0 7 0) 2 0 6 0) 2 0 13 0) 2 0 16 0) 2 0 5 0 2 0 6 = 0 := by rw [rUp_ne (by decide), rUp_ne (by decide), rUp_ne (by decide), rUp_at]
  have x7 : rUp (rUp (rUp (rUp (rUp (rUp (rUp (rUp c 1 0 11 (c 1 0 7)) 1 0 12 (c 1 0 9)) 1 0 13 (c 1 0 10)) 2 0 7 0) 2 0 6 0) 2 0 13 0) 2 0 16 0) 2 0 5 0 2 0 7 = 0 := by rw [rUp_ne (by decide), rUp_ne (by decide), rUp_ne (by decide), rUp_ne (by decide), rUp_at]
  have o11 : rUp (rUp (rUp c 1 0 11 (c 1 0 7)) 1 0 12 (c 1 0 9)) 1 0 13 (c 1 0 10) 1 0 11 = c 1 0 7 := by rw [rUp_ne (by decide), rUp_ne (by decide), rUp_at]
  have o12 : rUp (rUp (rUp c 1 0 11 (c 1 0 7)) 1 0 12 (c 1 0 9)) 1 0 13 (c 1 0 10) 1 0 12 = c 1 0 9 := by rw [rUp_ne (by decide), rUp_at]
  have o13 : rUp (rUp (rUp c 1 0 11 (c 1 0 7)) 1 0 12 (c 1 0 9)) 1 0 13 (c 1 0 10) 1 0 13 = c 1 0 10 := rUp_at
  have oj : ∀ j, j ≠ 11 → j ≠ 12 → j ≠ 13 → rUp (rUp (rUp c 1 0 11 (c 1 0 7)) 1 0 12 (c 1 0 9)) 1 0 13 (c 1 0 10) 1 0 j = c 1 0 j := fun j z1 z2 z3 => by rw [rUp_ne (fun y => z3 y.2.2), rUp_ne (fun y => z2 y.2.2), rUp_ne (fun y => z1 y.2.2)]
  have fm : fH 15 [] [0, 3, 14, 18, 33, 34, 35] m (rUp (rUp (rUp (rUp (rUp (rUp (rUp m 15 0 0 0) 15 0 34 (m 15 0 3)) 15 0 3 0) 15 0 35 0) 15 0 14 (m 15 0 13)) 15 0 18 0) 15 0 33 0) := fH_fld (fH_fld (fH_fld (fH_fld (fH_fld (fH_fld (fH_fld fH_refl (by decide)) (by decide)) (by decide)) (by decide)) (by decide)) (by decide)) (by decide)
  have y34 : rUp (rUp (rUp (rUp (rUp (rUp (rUp m 15 0 0 0) 15 0 34 (m 15 0 3)) 15 0 3 0) 15 0 35 0) 15 0 14 (m 15 0 13)) 15 0 18 0) 15 0 33 0 15 0 34 = m 15 0 3 := by rw [rUp_ne (by decide), rUp_ne (by decide), rUp_ne (by decide), rUp_ne (by decide), rUp_ne (by decide), rUp_at]
  have y3 : rUp (rUp (rUp (rUp (rUp (rUp (rUp m 15 0 0 0) 15 0 34 (m 15 0 3)) 15 0 3 0) 15 0 35 0) 15 0 14 (m 15 0 13)) 15 0 18 0) 15 0 33 0 15 0 3 = 0 := by rw [rUp_ne (by decide), rUp_ne (by decide), rUp_ne (by decide), rUp_ne (by decide), rUp_at]
  have y35 : rUp (rUp (rUp (rUp (rUp (rUp (rUp m 15 0 0 0) 15 0 34 (m 15 0 3)) 15 0 3 0) 15 0 35 0) 15 0 14 (m 15 0 13)) 15 0 18 0) 15 0 33 0 15 0 35 = 0 := by rw [rUp_ne (by decide), rUp_ne (by decide), rUp_ne (by decide), rUp_at]
  have y14 : rUp (rUp (rUp (rUp (rUp (rUp (rUp m 15 0 0 0) 15 0 34 (m 15 0 3)) 15 0 3 0) 15 0 35 0) 15 0 14 (m 15 0 13)) 15 0 18 0) 15 0 33 0 15 0 14 = m 15 0 13 := by rw [rUp_ne (by decide), rUp_ne (by decide), rUp_at]
  have y18 : rUp (rUp (rUp (rUp (rUp (rUp (rUp m 15 0 0 0) 15 0 34 (m 15 0 3)) 15 0 3 0) 15 0 35 0) 15 0 14 (m 15 0 13)) 15 0 18 0) 15 0 33 0 15 0 18 = 0 := by rw [rUp_ne (by decide), rUp_at]
  have y33 : rUp (rUp (rUp (rUp (rUp (rUp (rUp m 15 0 0 0) 15 0 34 (m 15 0 3)) 15 0 3 0) 15 0 35 0) 15 0 14 (m 15 0 13)) 15 0 18 0) 15 0 33 0 15 0 33 = 0 := rUp_at
  rw [e1, e2]
  generalize rUp (rUp (rUp (rUp (rUp (rUp (rUp (rUp c 1 0 11 (c 1 0 7)) 1 0 12 (c 1 0 9)) 1 0 13 (c 1 0 10)) 2 0 7 0) 2 0 6 0) 2 0 13 0) 2 0 16 0) 2 0 5 0 = c1 at *
  generalize rUp (rUp (rUp (rUp (rUp (rUp (rUp m 15 0 0 0) 15 0 34 (m 15 0 3)) 15 0 3 0) 15 0 35 0) 15 0 14 (m 15 0 13)) 15 0 18 0) 15 0 33 0 = m1 at *
  have p14 : rUp m 15 0 14 (m 15 0 13) 15 0 14 = m 15 0 13 := rUp_at
  have pg : ∀ G : Nat, G ≠ 15 → rUp m 15 0 14 (m 15 0 13) G = m G := fun G z => rUp_grp z
  have P := r5
  unfold qP at P
  rw [p14] at P
  have hF1 : FR c1 m1 (c1 1 0 9) := by
    rw [one, oj 9 (by decide) (by decide) (by decide)]
    refine FR_less r8 (Int.le_refl _) (fc.1 3 (by decide) (by decide)) (fc.1 26 (by decide) (by decide)) (fc.1 19 (by decide) (by decide)) (fc.1 20 (by decide) (by decide)) ?_ ?_ ?_ ?_ ?_ ?_ ?_ ?_ (fun x x0 x1 => by have := (r8 x x0 x1).2.1.2.1; rw [p14] at this; rw [y14]; exact this)
    · rw [rUp_ne (by decide)]; exact fm.2 8 (by decide)
    · rw [rUp_ne (by decide)]; exact fm.2 9 (by decide)
    · rw [pg 61 (by decide)]; exact fm.1 61 (by decide) (by decide)
    · rw [pg 62 (by decide)]; exact fm.1 62 (by decide) (by decide)
    · rw [pg 63 (by decide)]; exact fm.1 63 (by decide) (by decide)
    · rw [pg 66 (by decide)]; exact fm.1 66 (by decide) (by decide)
    · rw [pg 67 (by decide)]; exact fm.1 67 (by decide) (by decide)
    · rw [pg 68 (by decide)]; exact fm.1 68 (by decide) (by decide)
  have hyT : yU c m → yT c1 m1 := fun hy => by
    obtain ⟨y1, y2, y3⟩ := hy
    unfold yT
    rw [fc.1 40 (by decide) (by decide), fm.2 32 (by decide), fm.2 13 (by decide), y33]
    refine ⟨y1, sN_H y2 fc (by decide) fm (by decide) (by decide), fun r r0 r1 => ?_, fun r r0 r1 => by omega⟩
    exact gR2_all (y3 r r0 r1) (fun K z => fc.1 K (by rcases z with rfl | rfl | rfl | rfl | rfl <;> decide) (by omega)) (fun K z => by rw [rUp_grp (by omega), rUp_grp (by omega), fm.1 K (by simp) (by omega)]) (by rw [rUp_at, rUp_at]; exact Int.le_refl _)
  have hfl : yFl c m c1 m1 := ⟨fH_sub fc (by decide) (by decide), by rw [one, oj 8 (by decide) (by decide) (by decide)], fH_sub fm (by decide) (by decide)⟩
  refine tell_loop (N0 := c 3 0 1) (B := B + 1) (cS := c) (mS := m) _ 0 c1 m1 hyT hfl (fun _ => by rw [y14, fm.2 13 (by decide)]) (Nat.le_refl _) (by decide) (by rw [y35]; decide) (by rw [y34]; omega) ⟨⟨?_, ?_, ?_⟩, ⟨?_, ?_, ?_⟩, ?_, ?_, ?_, x7, ⟨r2.1, by rw [y34]; omega, by rw [fc.1 3 (by decide) (by decide), y35]; omega⟩, ?_, ?_, hF1⟩ ⟨⟨?_, ?_, ?_⟩, ⟨by rw [y18]; decide, by rw [y33]; decide⟩, ⟨?_, ?_⟩, ?_, fc.1 40 (by decide) (by decide), y34.symm, y3, (fm.2 32 (by decide)).symm, (fm.2 17 (by decide)).symm, (fm.2 13 (by decide)).symm, ?_, ?_, ?_⟩
  · rw [fc.2 3 (by decide), y34]; exact r1.1
  · rw [y34]; exact r1.2.1
  · intro j j0 j1
    rw [y34] at j1
    rw [fc.1 21 (by decide) (by decide), fm.1 59 (by decide) (by decide)]
    exact r1.2.2.2 j j0 j1
  · rw [x6, y35]
  · rw [y35]; decide
  · rw [y35, y34]; exact r1.2.1
  · unfold qNc
    rw [fc.1 3 (by decide) (by decide), fc.1 26 (by decide) (by decide)]; exact r2
  · unfold qNm
    rw [fm.2 8 (by decide), fm.2 9 (by decide), fm.1 61 (by decide) (by decide), fm.1 62 (by decide) (by decide), fm.1 63 (by decide) (by decide)]; exact r3
  · exact qP_up r5 (by rw [one, oj 7 (by decide) (by decide) (by decide)]) (fc.1 16 (by decide) (by decide)) (fc.1 17 (by decide) (by decide)) (by rw [y14, p14]) (by rw [pg 64 (by decide)]; exact fm.1 64 (by decide) (by decide)) (by rw [pg 65 (by decide)]; exact fm.1 65 (by decide) (by decide)) (by rw [pg 66 (by decide)]; exact fm.1 66 (by decide) (by decide))
  · rw [one, oj 10 (by decide) (by decide) (by decide), fm.2 32 (by decide), y33]; omega
  · rw [one, oj 9 (by decide) (by decide) (by decide), fm.2 17 (by decide), y18]; omega
  · rw [one, o11, fm.2 13 (by decide)]; exact P.1
  · rw [one, o12, fm.2 17 (by decide)]; exact r7.1
  · rw [one, o13, fm.2 32 (by decide)]; exact r6.1
  · rw [fm.2 13 (by decide)]; exact P.2.1
  · rw [fm.2 13 (by decide), y14]; exact Int.le_refl _
  · intro f f0 f1
    rw [fm.2 17 (by decide)] at f1
    have := (r8 f f0 (by omega)).2.1.2.1
    rw [p14, pg 67 (by decide)] at this
    rw [fm.1 67 (by decide) (by decide), fm.2 13 (by decide)]
    exact this
  · rw [fm.2 32 (by decide)]; omega
  · rw [y34]; exact r1.2.2.1
  · rw [fm.2 17 (by decide)]; omega
