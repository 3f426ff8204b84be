/-! ===== a reckoning by both, when told ===== -/
noncomputable def tl5 (l : List Int) (j : Int) : Int := l.getD j.toNat 0
/-- the word is -/
theorem is_W : qW pSm (tl5 [105, 115]) 2 361 0 2 := by
  have hV : pV pSm (tl5 [105, 115]) 0 1 := ⟨by decide, fun j hj => by
    have : j = 0 := by omega
    subst this
    decide⟩
  refine ⟨1, by decide, by decide, hV, ?_, by decide, by decide⟩
  rw [pPk_eq (Or.inl rfl) (by decide) hV]
  decide
theorem is_two {t : Int → Int} {n w f s : Int} (h : qW pSm t n w f s) : w = 361 ↔ s = 2 ∧ t f = 105 ∧ t (f + 1) = 115 := by
  rw [qW_iff (Or.inl rfl) h is_W, pSame_iff]
  constructor
  · rintro ⟨e, e2⟩
    have a := e2 0 (by decide) (by decide)
    have b := e2 1 (by decide) (by decide)
    rw [Int.zero_add] at a
    rw [Int.add_comm] at b
    exact ⟨e, a, b⟩
  · rintro ⟨e, a, b⟩
    refine ⟨e, fun j j0 j1 => ?_⟩
    have : j = 0 ∨ j = 1 := by omega
    rcases this with rfl | rfl
    · rw [Int.zero_add]; exact a
    · rw [Int.add_comm]; exact b
theorem fn13_is {g : rHp} : fn13 [105, 115, 0, 0, 0] g = (0, (if g 15 0 38 = 2 ∧ g 59 0 (g 15 0 37) = 105 ∧ g 59 0 (g 15 0 37 + 1) = 115 then 1 else 0), g) := by
  unfold fn13
  simp only [zLet, List.getD_cons_zero, List.getD_cons_succ]
  rw [if_pos (by decide), if_neg (by decide)]
  by_cases h1 : g 15 0 38 = 2
  · rw [if_neg (fun q => q h1)]
    by_cases h2 : g 59 0 (g 15 0 37) = 105
    · rw [if_neg (fun q => q h2)]
      by_cases h3 : g 59 0 (g 15 0 37 + 1) = 115
      · rw [if_neg (fun q => q h3), if_pos ⟨h1, h2, h3⟩]
      · rw [if_pos h3, if_neg (fun q => h3 q.2.2)]
    · rw [if_pos h2, if_neg (fun q => h2 q.2.1)]
  · rw [if_pos h1, if_neg (fun q => h1 q.1)]
/-- the reference from the word behind the VARIABLE on -/
noncomputable def qRk (M : rHp) (n1 n8 n9 n17 n18 n24 n28 : Int) : zR :=
  zLet (fn12 [] M) fun p11 =>
  zLet p11.2.2 fun g12 =>
  if 1 ≤ p11.2.1 then
    zLet (fn13 [105, 115, 0, 0, 0] g12) fun p12 =>
    zLet p12.2.2 fun g13 =>
    if 1 ≤ p12.2.1 then
      zLet (fn18 [n24] g13) fun p13 =>
      zLet p13.2.2 fun g14 =>
      if 1 ≤ p13.2.1 then
        zLet (fn8 [n18] g14) fun p14 =>
        zLet p14.2.2 fun g15 =>
        (0, 0, g15)
      else
        zLet (fn34 [1] g14) fun p14 =>
        zLet p14.2.2 fun g15 =>
        if 1 ≤ p14.2.1 then
          zLet (fn7 [] g15) fun p15 =>
          zLet p15.2.2 fun g16 =>
          zLet (g16 15 0 35) fun n38 =>
          zLet (fn6 [n38] g16) fun p16 =>
          zLet p16.2.2 fun g17 =>
          if 0 ≤ -n38 + n1 + (-1) then
            zLet (p16.2.1) fun n39 =>
            if n39 = 43 then
              zLet (rUp g17 15 0 35 (n38 + 1)) fun g18 =>
              zLet (rUp g18 77 0 (n9 + 8 * n8) 5) fun g19 =>
              zLet (fn34 [2] g19) fun p19 =>
              zLet p19.2.2 fun g20 =>
              if 1 ≤ p19.2.1 then
                zLet (zF2 .ishl 1 n24) fun n46 =>
                zLet (zF2 .ior n17 n46) fun n47 =>
                zLet (rUp g20 15 0 45 n47) fun g21 =>
                (0, 1, g21)
              else
                (0, 0, g20)
            else
              if n39 = 45 then
                zLet (rUp g17 15 0 35 (n38 + 1)) fun g18 =>
                zLet (rUp g18 77 0 (n9 + 8 * n8) 6) fun g19 =>
                zLet (fn34 [2] g19) fun p19 =>
                zLet p19.2.2 fun g20 =>
                if 1 ≤ p19.2.1 then
                  zLet (zF2 .ishl 1 n24) fun n46 =>
                  zLet (zF2 .ior n17 n46) fun n47 =>
                  zLet (rUp g20 15 0 45 n47) fun g21 =>
                  (0, 1, g21)
                else
                  (0, 0, g20)
              else
                if n39 = 42 then
                  zLet (rUp g17 15 0 35 (n38 + 1)) fun g18 =>
                  zLet (rUp g18 77 0 (n9 + 8 * n8) 7) fun g19 =>
                  zLet (fn34 [2] g19) fun p19 =>
                  zLet p19.2.2 fun g20 =>
                  if 1 ≤ p19.2.1 then
                    zLet (zF2 .ishl 1 n24) fun n46 =>
                    zLet (zF2 .ior n17 n46) fun n47 =>
                    zLet (rUp g20 15 0 45 n47) fun g21 =>
                    (0, 1, g21)
                  else
                    (0, 0, g20)
                else
                  zLet (fn8 [n38] g17) fun p17 =>
                  zLet p17.2.2 fun g18 =>
                  (0, 0, g18)
          else
            zLet (fn8 [n38] g17) fun p17 =>
            zLet p17.2.2 fun g18 =>
            (0, 0, g18)
        else
          (0, 0, g15)
    else
      zLet (fn8 [n28] g13) fun p13 =>
      zLet p13.2.2 fun g14 =>
      (0, 0, g14)
  else
    (0, 0, g12)
theorem qT_c {c m c_q : rHp} (h : qT c m) (h3 : c_q 2 0 3 = c 2 0 3) (h21 : c_q 21 = c 21) : qT c_q m := qT_up h h3 h21 rfl rfl
/-- what a VARIABLE's meeting touches -/
theorem meet_fr {A A3 : rHp} {w v : Int} (h : fn120 [w] A = (0, v, A3)) : fH 2 [22, 23] [13] A A3 := by
  obtain ⟨X, x1, x2, x3⟩ := meet_both h (fH_refl (L := []) (J := [])) (by decide) (by decide) (by decide)
  rw [h] at x1
  have hX : A3 = X := congrArg (fun q => q.2.2) x1
  rw [hX]
  exact x3
/-- a GOAL is read by both: from A3 and M on -/
noncomputable def qGd (H : Int → Prop) (c0 m0 A3 M : rHp) (g : Int) (c_q m_q : rHp) : Prop := qR 1 c0 m0 c_q m_q ∧ qB H c_q m_q ∧ fH 2 [3, 26, 22, 23, 10, 43, 44, 45, 46] [6, 8, 9, 10, 13, 5] A3 c_q ∧ fH 15 [61, 62, 63, 74, 82, 83, 84, 80, 81, 77] [8, 9, 35, 37, 38, 39, 40, 45] M m_q ∧ (∀ G h, G ∈ [10, 43, 44, 45, 46] → h ≠ g → c_q G h = A3 G h) ∧ M 15 0 35 < m_q 15 0 35
theorem reck_two {H : Int → Prop} {c0 m0 A A3 M : rHp} {w v p : Int} (hR : qR 0 c0 m0 A3 M) (hB : qB H A3 M) (h00 : 0 ≤ c0 1000 0 0) (hlim : 2 * c0 1000 0 0 + m0 15 0 34 ≤ 10239) (h120 : fn120 [w] A = (0, v, A3)) (hv : qVr v) (hvc : v < M 74 0 (M 15 0 44)) (hp : p ≤ M 15 0 34)
    (hn : M 15 0 35 < M 15 0 34) (hsm : pSm (M 59 0 (M 15 0 35)) = true) (h81 : M 81 0 (4 * M 73 0 (M 15 0 44) + 32 * M 15 0 44) = v) :
    (∃ c_q m_q, fn156 [w, p] A = (0, 1, c_q) ∧ qRk M (M 15 0 34) (M 15 0 44) (M 73 0 (M 15 0 44)) (M 15 0 45) p v (M 15 0 35) = (0, 1, m_q) ∧ qGd H c0 m0 A3 M (qG A) c_q m_q ∧ gRk (sN c0 m0) (M 15 0 45) (qG A) (M 73 0 (M 15 0 44) + 8 * M 15 0 44) c_q m_q ∧ m_q 15 0 45 = qSt (M 15 0 45) (m_q 81 0 (4 * (M 73 0 (M 15 0 44) + 8 * M 15 0 44)))) ∨
    (∃ c_q m_q, fn156 [w, p] A = (0, 0, c_q) ∧ qRk M (M 15 0 34) (M 15 0 44) (M 73 0 (M 15 0 44)) (M 15 0 45) p v (M 15 0 35) = (0, 0, m_q) ∧ qZ c0 m0 c_q m_q) := by
  have fm := meet_fr h120
  have hG : A 9 (A 40 0 (A 1 0 10)) 2 + 9 * A 40 0 (A 1 0 10) + 1 = qG A := rfl
  have hTA : qT A M := qT_c hR.1 (fm.2 3 (by decide)).symm (fm.1 21 (by decide) (by decide)).symm
  have a6 : A 2 0 6 = M 15 0 35 := by rw [← fm.2 6 (by decide)]; exact hR.2.1.1
  have hAA : qA A M := ⟨a6, hR.2.1.2.1, hR.2.1.2.2⟩
  have at0 := hR.2.1.2.1
  have at1 := hR.2.1.2.2
  have x5 : A 2 0 5 = M 15 0 45 := by rw [← fm.2 5 (by decide)]; exact hB.2.2.1
  have bk : fH 2 (22 :: 23 :: lC) (13 :: jC) A3 A := fH_sub (fH_symm fm) (by decide) (by decide)
  rcases word_two hTA hAA hn hsm [] [] with ⟨e, w_q, w1, w2, w3, w4, w5⟩ | ⟨e, w_q, w1, w2⟩
  · have x8 : rUp (rUp (rUp A 2 0 9 (M 15 0 35)) 2 0 8 w_q) 2 0 6 e 2 0 8 = w_q := by rw [rUp_ne (by decide), rUp_at]
    have fA : fH 2 [] [6, 8, 9] A (rUp (rUp (rUp A 2 0 9 (M 15 0 35)) 2 0 8 w_q) 2 0 6 e) := fH_fld (fH_fld (fH_fld fH_refl (by decide)) (by decide)) (by decide)
    have x6 : rUp (rUp (rUp A 2 0 9 (M 15 0 35)) 2 0 8 w_q) 2 0 6 e 2 0 6 = e := rUp_at
    have fM : fH 15 [] [35, 37, 38] M (rUp (rUp (rUp M 15 0 37 (M 15 0 35)) 15 0 38 (e - M 15 0 35)) 15 0 35 e) := fH_fld (fH_fld (fH_fld fH_refl (by decide)) (by decide)) (by decide)
    have y35 : rUp (rUp (rUp M 15 0 37 (M 15 0 35)) 15 0 38 (e - M 15 0 35)) 15 0 35 e 15 0 35 = e := rUp_at
    have y38 : rUp (rUp (rUp M 15 0 37 (M 15 0 35)) 15 0 38 (e - M 15 0 35)) 15 0 35 e 15 0 38 = e - M 15 0 35 := by rw [rUp_ne (by decide), rUp_at]
    have y37 : rUp (rUp (rUp M 15 0 37 (M 15 0 35)) 15 0 38 (e - M 15 0 35)) 15 0 35 e 15 0 37 = M 15 0 35 := by rw [rUp_ne (by decide), rUp_ne (by decide), rUp_at]
    generalize rUp (rUp (rUp A 2 0 9 (M 15 0 35)) 2 0 8 w_q) 2 0 6 e = A1 at *
    generalize rUp (rUp (rUp M 15 0 37 (M 15 0 35)) 15 0 38 (e - M 15 0 35)) 15 0 35 e = M1 at *
    have y59 : M1 59 = M 59 := fM.1 59 (by decide) (by decide)
    have y34 : M1 15 0 34 = M 15 0 34 := fM.2 34 (by decide)
    have y45 : M1 15 0 45 = M 15 0 45 := fM.2 45 (by decide)
    have y44 : M1 15 0 44 = M 15 0 44 := fM.2 44 (by decide)
    have y74 : M1 74 = M 74 := fM.1 74 (by decide) (by decide)
    have f13 : fn13 [105, 115, 0, 0, 0] M1 = (0, (if w_q = 361 then 1 else 0), M1) := by
      rw [fn13_is, y38, y37, y59]
      congr 2
      by_cases h : w_q = 361
      · rw [if_pos h, if_pos ((is_two w5).1 h)]
      · rw [if_neg h, if_neg (fun q => h ((is_two w5).2 q))]
    by_cases hw : w_q = 361
    · rw [if_pos hw] at f13
      obtain ⟨cb, b1, b2, b3, b4, b5, b6⟩ := fn103_all (c := A1) (k := 6) (w := 0) (p := p)
      have hG1 : qG A1 = qG A := qG_up fA (by decide) (by decide) (by decide)
      rw [hG1] at b3 b4 b5 b6
      have fAb : fH 2 [10, 46] [6, 8, 9] A cb := fH_trans (fH_sub fA (by decide) (by decide)) (fH_sub b2 (by decide) (by decide))
      obtain ⟨B3, e1, e2, e3⟩ := meet_both h120 fAb (by decide) (by decide) (by decide)
      have f4 : fH 2 [10] [] B3 (rUp B3 10 (qG A) 11 v) := fH_grp fH_refl (by decide) (by decide)
      have o4 : ∀ h j, ¬ (h = qG A ∧ j = 11) → rUp B3 10 (qG A) 11 v 10 h j = B3 10 h j := fun h j q => rUp_ne (fun y => q y.2)
      have w11 : rUp B3 10 (qG A) 11 v 10 (qG A) 11 = v := rUp_at
      generalize hB4 : rUp B3 10 (qG A) 11 v = B4 at *
      have hGB : qG B4 = qG A := (qG_up f4 (by decide) (by decide) (by decide)).trans ((qG_up e3 (by decide) (by decide) (by decide)).trans (qG_up fAb (by decide) (by decide) (by decide)))
      have f34 : fH 2 [10, 46] [6, 8, 9] A3 B4 := fH_trans e2 (fH_sub f4 (by decide) (by decide))
      have x65 : B4 2 0 5 = M1 15 0 45 := by rw [f34.2 5 (by decide), y45]; exact hB.2.2.1
      have hR4 : qR 0 c0 m0 B4 M1 := by
        refine qR_up hR (fH_sub f34 (by decide) (by decide)) (fH_sub fM (by decide) (by decide)) ?_ ?_ ?_ ?_
        · rw [f4.2 6 (by decide), e3.2 6 (by decide), b2.2 6 (by decide), x6, y35]
        · rw [y35]; omega
        · rw [y35]; omega
        · rw [y35]; exact w4
      have hB4_q : qB H B4 M1 := by
        obtain ⟨s1, s2, s3, s4, s5⟩ := hB
        have z5 : B4 2 0 5 = A3 2 0 5 := f34.2 5 (by decide)
        refine ⟨qS_up s1 y44 y74 (fM.1 84 (by decide) (by decide)) (by rw [y35]; omega), qO_up s2 (f34.2 16 (by decide)) (f34.1 25 (by decide) (by decide)) (fM.2 58 (by decide)) (fM.1 89 (by decide) (by decide)) (fM.1 90 (by decide) (by decide)) (fM.1 91 (by decide) (by decide)) (by rw [y74, y44]; exact Int.le_refl _), x65, by rw [z5]; exact s4, ?_⟩
        rw [z5, y74, y44]; exact s5
      have z4 : B4 10 (qG A) 5 = 0 := by rw [o4 _ _ (by omega), e3.1 10 (by decide) (by decide)]; exact b4
      have h156 : fn156 [w, p] A = if qBt (B4 2 0 5) v = 1 then (0, 0, rUp B4 2 0 4 p) else
          if 1 ≤ (fn139 [qG A] B4).2.1 then
            (if 0 ≤ (fn114 [] (fn139 [qG A] B4).2.2).2.1 then
              (let c7 := (fn114 [] (fn139 [qG A] B4).2.2).2.2
               let L := (fn114 [] (fn139 [qG A] B4).2.2).2.1
               let k := if L = 43 then 6 else if L = 45 then 7 else 8
               if L = 43 ∨ L = 45 ∨ L = 42 then
                 (if 1 ≤ (fn139 [qG A] (rUp (rUp c7 2 0 6 (c7 2 0 6 + 1)) 10 (qG A) 4 k)).2.1 then (0, 1, rUp (fn139 [qG A] (rUp (rUp c7 2 0 6 (c7 2 0 6 + 1)) 10 (qG A) 4 k)).2.2 2 0 5 (qSt (A 2 0 5) v)) else (0, 0, (fn139 [qG A] (rUp (rUp c7 2 0 6 (c7 2 0 6 + 1)) 10 (qG A) 4 k)).2.2))
               else (0, 0, rUp c7 2 0 4 (c7 2 0 6)))
             else (0, 0, rUp (fn114 [] (fn139 [qG A] B4).2.2).2.2 2 0 4 ((fn114 [] (fn139 [qG A] B4).2.2).2.2 2 0 6)))
          else (0, 0, (fn139 [qG A] B4).2.2) := by
        unfold fn156
        simp only [zLet, List.getD_cons_zero, List.getD_cons_succ, w1, x8, b1, e1, hG, hB4, fn117_eq, one_bit, fn109_eq]
        rw [if_pos (show (1 : Int) ≤ 1 by decide), if_pos hw, if_neg (show ¬ v < 0 by have := hv.1; omega)]
        by_cases hk : qBt (B4 2 0 5) v = 1
        · rw [if_pos hk, if_pos hk]
        · rw [if_neg hk, if_neg hk]
          by_cases h1 : 1 ≤ (fn139 [qG A] B4).2.1
          · rw [if_pos h1, if_pos h1]
            by_cases h2 : 0 ≤ (fn114 [] (fn139 [qG A] B4).2.2).2.1
            · rw [if_pos h2, if_pos h2]
              by_cases l1 : (fn114 [] (fn139 [qG A] B4).2.2).2.1 = 43
              · rw [if_pos l1, if_pos (Or.inl l1), if_pos l1]
                rfl
              · rw [if_neg l1, if_neg l1]
                by_cases l2 : (fn114 [] (fn139 [qG A] B4).2.2).2.1 = 45
                · rw [if_pos l2, if_pos (Or.inr (Or.inl l2)), if_pos l2]
                  rfl
                · rw [if_neg l2, if_neg l2]
                  by_cases l3 : (fn114 [] (fn139 [qG A] B4).2.2).2.1 = 42
                  · rw [if_pos l3, if_pos (Or.inr (Or.inr l3))]
                    rfl
                  · rw [if_neg l3, if_neg (by rintro (q | q | q); exact l1 q; exact l2 q; exact l3 q)]
            · rw [if_neg h2, if_neg h2]
          · rw [if_neg h1, if_neg h1]
      have hRk : qRk M (M 15 0 34) (M 15 0 44) (M 73 0 (M 15 0 44)) (M 15 0 45) p v (M 15 0 35) = if qBt (M1 15 0 45) v = 1 then (0, 0, (fn8 [p] M1).2.2) else
          if 1 ≤ (fn34 [1] M1).2.1 then
            (let m7 := (fn7 [] (fn34 [1] M1).2.2).2.2
             let b := pB (m7 59 0) (m7 15 0 34) (m7 15 0 35)
             let k := if b = 43 then 5 else if b = 45 then 6 else 7
             if 0 ≤ -m7 15 0 35 + M 15 0 34 + (-1) then
               (if b = 43 ∨ b = 45 ∨ b = 42 then
                 (if 1 ≤ (fn34 [2] (rUp (rUp m7 15 0 35 (m7 15 0 35 + 1)) 77 0 (M 73 0 (M 15 0 44) + 8 * M 15 0 44) k)).2.1 then (0, 1, rUp (fn34 [2] (rUp (rUp m7 15 0 35 (m7 15 0 35 + 1)) 77 0 (M 73 0 (M 15 0 44) + 8 * M 15 0 44) k)).2.2 15 0 45 (qSt (M 15 0 45) v)) else (0, 0, (fn34 [2] (rUp (rUp m7 15 0 35 (m7 15 0 35 + 1)) 77 0 (M 73 0 (M 15 0 44) + 8 * M 15 0 44) k)).2.2))
               else (0, 0, (fn8 [m7 15 0 35] m7).2.2))
             else (0, 0, (fn8 [m7 15 0 35] m7).2.2))
          else (0, 0, (fn34 [1] M1).2.2) := by
        unfold qRk
        simp only [zLet, w2, f13, fn18_eq, one_bit, fn6_eq]
        rw [if_pos (show (1 : Int) ≤ 1 by decide), if_pos (show (1 : Int) ≤ 1 by decide)]
        by_cases hk : qBt (M1 15 0 45) v = 1
        · rw [if_pos hk, if_pos hk]
        · rw [if_neg hk, if_neg hk]
          by_cases h1 : 1 ≤ (fn34 [1] M1).2.1
          · rw [if_pos h1, if_pos h1]
            generalize (fn7 [] (fn34 [1] M1).2.2).2.2 = m7
            by_cases h2 : 0 ≤ -m7 15 0 35 + M 15 0 34 + (-1)
            · rw [if_pos h2, if_pos h2]
              by_cases l1 : pB (m7 59 0) (m7 15 0 34) (m7 15 0 35) = 43
              · rw [if_pos l1, if_pos (Or.inl l1), if_pos l1]
                rfl
              · rw [if_neg l1, if_neg l1]
                by_cases l2 : pB (m7 59 0) (m7 15 0 34) (m7 15 0 35) = 45
                · rw [if_pos l2, if_pos (Or.inr (Or.inl l2)), if_pos l2]
                  rfl
                · rw [if_neg l2, if_neg l2]
                  by_cases l3 : pB (m7 59 0) (m7 15 0 34) (m7 15 0 35) = 42
                  · rw [if_pos l3, if_pos (Or.inr (Or.inr l3))]
                    rfl
                  · rw [if_neg l3, if_neg (by rintro (q | q | q); exact l1 q; exact l2 q; exact l3 q)]
            · rw [if_neg h2, if_neg h2]
          · rw [if_neg h1, if_neg h1]
      by_cases hk : qBt (M1 15 0 45) v = 1
      · refine Or.inr ⟨rUp B4 2 0 4 p, rUp M1 15 0 36 p, ?_, ?_, qZ_up hR4 (by decide) (fH_fld fH_refl (by decide)) (fH_fld fH_refl (by decide))⟩
        · rw [h156, if_pos (by rw [x65]; exact hk)]
        · rw [hRk, if_pos hk, fn8_ge (by rw [y34]; exact hp)]
      · rw [h156, hRk, if_neg (by rw [x65]; exact hk), if_neg hk]
        rcases value_two (k := 1) hR4 hB4_q h00 hlim (by rw [hGB, z4]; decide) with ⟨c6, m6, v1, v2, v3, v4, v5, v6, v7, v8, v9, v10, v11, v12⟩ | ⟨c6, m6, v1, v2, v3⟩
        · rw [hGB] at v1 v7 v8 v9
          rw [hGB, z4, fM.1 73 (by decide) (by decide), y44, y45, show 4 * M 73 0 (M 15 0 44) + (32 * M 15 0 44 + 1) = 4 * (M 73 0 (M 15 0 44) + 8 * M 15 0 44) + 1 by omega] at v12
          rw [v1, v2]
          simp only
          rw [if_pos (show (1 : Int) ≤ 1 by decide), if_pos (show (1 : Int) ≤ 1 by decide)]
          obtain ⟨q, L, k1, k2, k3, k4, k5, k6, k7⟩ := look_two v3.1 v3.2.1 [] []
          rw [k1, k2]
          simp only
          have n35 : rUp m6 15 0 35 q 15 0 35 = q := rUp_at
          have n34 : rUp m6 15 0 35 q 15 0 34 = m6 15 0 34 := rUp_ne (by decide)
          have n59 : rUp m6 15 0 35 q 59 = m6 59 := rUp_grp (by decide)
          have n6 : rUp c6 2 0 6 q 2 0 6 = q := rUp_at
          have l34 : M 15 0 34 = m6 15 0 34 := by rw [v6.2 34 (by decide)]; exact y34.symm
          have e0 := v3.2.1.2.1
          simp only [n35, n34, n59, n6, l34]
          have hbad : qZ c0 m0 (rUp (rUp c6 2 0 6 q) 2 0 4 q) (rUp (rUp m6 15 0 35 q) 15 0 36 q) := qZ_up v3 (by decide) (fH_fld (fH_fld fH_refl (by decide)) (by decide)) (fH_fld (fH_fld fH_refl (by decide)) (by decide))
          have f8 : (fn8 [q] (rUp m6 15 0 35 q)).2.2 = rUp (rUp m6 15 0 35 q) 15 0 36 q := fn8_ge (by rw [n34]; exact k4)
          by_cases hq : q < m6 15 0 34
          · rw [if_pos (k6.2 hq), if_pos (show (0 : Int) ≤ -q + m6 15 0 34 + -1 by omega)]
            have i43 : (L = 43) = (pB (m6 59 0) (m6 15 0 34) q = 43) := qL_is k5 (by decide) (by decide)
            have i45 : (L = 45) = (pB (m6 59 0) (m6 15 0 34) q = 45) := qL_is k5 (by decide) (by decide)
            have i42 : (L = 42) = (pB (m6 59 0) (m6 15 0 34) q = 42) := qL_is k5 (by decide) (by decide)
            by_cases ho : L = 43 ∨ L = 45 ∨ L = 42
            · have hom : pB (m6 59 0) (m6 15 0 34) q = 43 ∨ pB (m6 59 0) (m6 15 0 34) q = 45 ∨ pB (m6 59 0) (m6 15 0 34) q = 42 := by rw [← i43, ← i45, ← i42]; exact ho
              rw [if_pos ho, if_pos hom]
              have hkk : (if L = 43 then (6 : Int) else if L = 45 then 7 else 8) = (if pB (m6 59 0) (m6 15 0 34) q = 43 then (5 : Int) else if pB (m6 59 0) (m6 15 0 34) q = 45 then 6 else 7) + 1 ∧ 5 ≤ (if pB (m6 59 0) (m6 15 0 34) q = 43 then (5 : Int) else if pB (m6 59 0) (m6 15 0 34) q = 45 then 6 else 7) ∧ (if pB (m6 59 0) (m6 15 0 34) q = 43 then (5 : Int) else if pB (m6 59 0) (m6 15 0 34) q = 45 then 6 else 7) ≤ 7 := by
                by_cases l1 : pB (m6 59 0) (m6 15 0 34) q = 43
                · rw [if_pos l1, if_pos (by rw [i43]; exact l1)]
                  decide
                · rw [if_neg l1, if_neg (by rw [i43]; exact l1)]
                  by_cases l2 : pB (m6 59 0) (m6 15 0 34) q = 45
                  · rw [if_pos l2, if_pos (by rw [i45]; exact l2)]
                    decide
                  · rw [if_neg l2, if_neg (by rw [i45]; exact l2)]
                    decide
              generalize (if L = 43 then (6 : Int) else if L = 45 then 7 else 8) = kc at hkk ⊢
              generalize (if pB (m6 59 0) (m6 15 0 34) q = 43 then (5 : Int) else if pB (m6 59 0) (m6 15 0 34) q = 45 then 6 else 7) = km at hkk ⊢
              have k8c : rUp (rUp (rUp c6 2 0 6 q) 2 0 6 (q + 1)) 10 (qG A) 4 kc 10 (qG A) 4 = kc := rUp_at
              have k8m : rUp (rUp (rUp m6 15 0 35 q) 15 0 35 (q + 1)) 77 0 (M 73 0 (M 15 0 44) + 8 * M 15 0 44) km 77 0 (M 73 0 (M 15 0 44) + 8 * M 15 0 44) = km := rUp_at
              have fc8 : fH 2 [10] [6] c6 (rUp (rUp (rUp c6 2 0 6 q) 2 0 6 (q + 1)) 10 (qG A) 4 kc) := fH_grp (fH_fld (fH_fld fH_refl (by decide)) (by decide)) (by decide) (by decide)
              have fm8 : fH 15 [77] [35] m6 (rUp (rUp (rUp m6 15 0 35 q) 15 0 35 (q + 1)) 77 0 (M 73 0 (M 15 0 44) + 8 * M 15 0 44) km) := fH_grp (fH_fld (fH_fld fH_refl (by decide)) (by decide)) (by decide) (by decide)
              have p35 : rUp (rUp (rUp m6 15 0 35 q) 15 0 35 (q + 1)) 77 0 (M 73 0 (M 15 0 44) + 8 * M 15 0 44) km 15 0 35 = q + 1 := by rw [rUp_grp (by decide), rUp_at]
              have p6 : rUp (rUp (rUp c6 2 0 6 q) 2 0 6 (q + 1)) 10 (qG A) 4 kc 2 0 6 = q + 1 := by rw [rUp_grp (by decide), rUp_at]
              have o8 : ∀ h j, ¬ (h = qG A ∧ j = 4) → rUp (rUp (rUp c6 2 0 6 q) 2 0 6 (q + 1)) 10 (qG A) 4 kc 10 h j = c6 10 h j := fun h j y => by rw [rUp_ne (fun z => y z.2), rUp_grp (by decide), rUp_grp (by decide)]
              generalize rUp (rUp (rUp c6 2 0 6 q) 2 0 6 (q + 1)) 10 (qG A) 4 kc = c8 at *
              generalize rUp (rUp (rUp m6 15 0 35 q) 15 0 35 (q + 1)) 77 0 (M 73 0 (M 15 0 44) + 8 * M 15 0 44) km = m8 at *
              have hR8 : qR 0 c0 m0 c8 m8 := by
                refine qR_up v3 (fH_sub fc8 (by decide) (by decide)) (fH_sub fm8 (by decide) (by decide)) ?_ ?_ ?_ ?_
                · rw [p6, p35]
                · rw [p35]; omega
                · rw [p35]; omega
                · rw [p35]; omega
              have hB8 : qB H c8 m8 := qB_sign v4 fc8 fm8 (by rw [p35]; omega)
              have hG8 : qG c8 = qG A := (qG_up fc8 (by decide) (by decide) (by decide)).trans ((qG_up v5 (by decide) (by decide) (by decide)).trans hGB)
              have z8 : c8 10 (qG c8) 5 < 4 := by rw [hG8, o8 _ _ (by omega), v7, z4]; decide
              rcases value_two (k := 2) hR8 hB8 h00 hlim z8 with ⟨c9, m9, u1, u2, u3, u4, u5, u6, u7, u8, u9, u10, u11, u12⟩ | ⟨c9, m9, u1, u2, u3⟩
              · have w5 : c8 10 (qG A) 5 = 1 := by rw [o8 _ _ (by omega), v7, z4]; decide
                rw [hG8] at u1 u7 u8 u9
                rw [hG8, w5, fm8.1 73 (by decide) (by decide), fm8.2 44 (by decide), fm8.2 45 (by decide), v6.1 73 (by decide) (by decide), v6.2 44 (by decide), v6.2 45 (by decide), fM.1 73 (by decide) (by decide), y44, y45, show 4 * M 73 0 (M 15 0 44) + (32 * M 15 0 44 + 2) = 4 * (M 73 0 (M 15 0 44) + 8 * M 15 0 44) + 2 by omega] at u12
                obtain ⟨d1, d2, d3⟩ := v12
                obtain ⟨g1, g2, g3⟩ := u12
                have x81 : m9 81 0 (4 * (M 73 0 (M 15 0 44) + 8 * M 15 0 44)) = v := by
                  rw [(g2 _ (by omega)).2, fm8.1 81 (by decide) (by decide), (d2 _ (by omega)).2, fM.1 81 (by decide) (by decide), show 4 * (M 73 0 (M 15 0 44) + 8 * M 15 0 44) = 4 * M 73 0 (M 15 0 44) + 32 * M 15 0 44 by omega]
                  exact h81
                rw [u1, u2]
                simp only
                refine Or.inl ⟨_, _, if_pos (show (1 : Int) ≤ 1 by decide), if_pos (show (1 : Int) ≤ 1 by decide), ⟨?_, ?_, ?_, ?_, ?_, ?_⟩, ⟨?_, ?_, ?_, ?_, ?_, ?_, ?_, ?_⟩, ?_⟩
                · refine qR_up u3 (fH_fld fH_refl (by decide)) (fH_fld fH_refl (by decide)) ?_ ?_ ?_ ?_
                  · rw [rUp_ne (by decide), rUp_ne (by decide)]; exact u3.2.1.1
                  · rw [rUp_ne (by decide)]; exact Int.le_refl _
                  · rw [rUp_ne (by decide)]; exact u3.2.1.2.1
                  · rw [rUp_ne (by decide)]; exact u3.2.1.2.2
                · obtain ⟨s1, s2, s3, s4, s5⟩ := u4
                  have k5 : A 2 0 5 = c9 2 0 5 := by
                    rw [u5.2 5 (by decide), fc8.2 5 (by decide), v5.2 5 (by decide), f34.2 5 (by decide), fm.2 5 (by decide)]
                  have sa := qSt_all (k := c9 2 0 5) (v := v) s4 hv
                  have t74 : ∀ x, rUp m9 15 0 45 x 74 0 (rUp m9 15 0 45 x 15 0 44) = m9 74 0 (m9 15 0 44) := fun x => by rw [rUp_grp (by decide), rUp_ne (by decide)]
                  have cnt : v < m9 74 0 (m9 15 0 44) := by
                    have c1 : m8 74 0 (m8 15 0 44) = m6 74 0 (m6 15 0 44) := by rw [fm8.1 74 (by decide) (by decide), fm8.2 44 (by decide)]
                    rw [y74, y44] at v11
                    omega
                  refine ⟨qS_up s1 (rUp_ne (by decide)) (rUp_grp (by decide)) (rUp_grp (by decide)) (by rw [rUp_ne (by decide)]; exact Int.le_refl _), qO_up s2 (rUp_ne (by decide)) (rUp_grp (by decide)) (rUp_ne (by decide)) (rUp_grp (by decide)) (rUp_grp (by decide)) (rUp_grp (by decide)) (by rw [t74]; exact Int.le_refl _), ?_, ?_, ?_⟩
                  · rw [rUp_at, rUp_at, x5]
                  · rw [rUp_at, k5]; exact sa.1
                  · intro z z0 z1
                    rw [rUp_at, k5]
                    rw [t74] at z0
                    rw [qBt_other s4 hv ⟨by have := hv.1; omega, z1⟩ (by omega)]
                    exact s5 z z0 z1
                · exact fH_fld (fH_trans (fH_trans (fH_trans (fH_sub f34 (by decide) (by decide)) (fH_sub v5 (by decide) (by decide))) (fH_sub fc8 (by decide) (by decide))) (fH_sub u5 (by decide) (by decide))) (by decide)
                · exact fH_fld (fH_trans (fH_trans (fH_trans (fH_sub fM (by decide) (by decide)) (fH_sub v6 (by decide) (by decide))) (fH_sub fm8 (by decide) (by decide))) (fH_sub u6 (by decide) (by decide))) (by decide)
                · intro G h y y2
                  have hm := memG y
                  rw [rUp_grp hm.1, u9 G h y y2]
                  have t8 : c8 G h = c6 G h := by
                    by_cases h10 : G = 10
                    · subst h10
                      funext j
                      exact o8 h j (fun z => y2 z.1)
                    · rw [fc8.1 G (by simpa using h10) hm.1]
                  rw [t8, v9 G h y y2]
                  have t4 : B4 G h = B3 G h := by
                    by_cases h10 : G = 10
                    · subst h10
                      funext j
                      exact o4 h j (fun z => y2 z.1)
                    · rw [f4.1 G (by simpa using h10) hm.1]
                  rw [t4, e3.1 G hm.2.2.2.1 hm.1, b6 G h y2, fA.1 G hm.2.2.2.2.2 hm.1, fm.1 G hm.2.2.2.1 hm.1]
                · rw [rUp_ne (by decide)]; omega
                · rw [rUp_grp (by decide), rUp_grp (by decide), u8 _ _ (by omega), u6.1 77 (by decide) (by decide), k8c, k8m]; exact hkk.1
                · rw [rUp_grp (by decide), u6.1 77 (by decide) (by decide), k8m]; exact hkk.2.1
                · rw [rUp_grp (by decide), u6.1 77 (by decide) (by decide), k8m]; exact hkk.2.2
                · refine gVl_up (gVl_up (gVl_up d3 ⟨?_, ?_, ?_⟩ ⟨?_, ?_⟩) (g1 0 (by decide)) (g2 _ (by omega))) ⟨?_, ?_, ?_⟩ ⟨?_, ?_⟩
                  · rw [fc8.1 43 (by decide) (by decide)]
                  · rw [fc8.1 44 (by decide) (by decide)]
                  · rw [fc8.1 46 (by decide) (by decide)]
                  · rw [fm8.1 80 (by decide) (by decide)]
                  · rw [fm8.1 81 (by decide) (by decide)]
                  · rw [rUp_grp (by decide)]
                  · rw [rUp_grp (by decide)]
                  · rw [rUp_grp (by decide)]
                  · rw [rUp_grp (by decide)]
                  · rw [rUp_grp (by decide)]
                · refine gVl_up g3 ⟨?_, ?_, ?_⟩ ⟨?_, ?_⟩
                  · rw [rUp_grp (by decide)]
                  · rw [rUp_grp (by decide)]
                  · rw [rUp_grp (by decide)]
                  · rw [rUp_grp (by decide)]
                  · rw [rUp_grp (by decide)]
                · rw [rUp_grp (by decide), rUp_grp (by decide), x81, u8 _ _ (by omega), o8 _ _ (by omega), v8 _ _ (by omega)]; exact w11
                · rw [rUp_grp (by decide), x81]; exact hv
                · rw [rUp_grp (by decide), x81, ← y45]; exact hk
                · rw [rUp_at, rUp_grp (by decide), x81]
              · rw [hG8] at u1
                rw [u1, u2]
                exact Or.inr ⟨_, _, if_neg (show ¬ (1 : Int) ≤ 0 by decide), if_neg (show ¬ (1 : Int) ≤ 0 by decide), u3⟩
            · have hom : ¬ (pB (m6 59 0) (m6 15 0 34) q = 43 ∨ pB (m6 59 0) (m6 15 0 34) q = 45 ∨ pB (m6 59 0) (m6 15 0 34) q = 42) := by rw [← i43, ← i45, ← i42]; exact ho
              rw [if_neg ho, if_neg hom, f8]
              exact Or.inr ⟨_, _, rfl, rfl, hbad⟩
          · rw [if_neg (fun y => hq (k6.1 y)), if_neg (show ¬ (0 : Int) ≤ -q + m6 15 0 34 + -1 by omega), f8]
            exact Or.inr ⟨_, _, rfl, rfl, hbad⟩
        · rw [hGB] at v1
          rw [v1, v2]
          exact Or.inr ⟨_, _, if_neg (show ¬ (1 : Int) ≤ 0 by decide), if_neg (show ¬ (1 : Int) ≤ 0 by decide), v3⟩
    · rw [if_neg hw] at f13
      refine Or.inr ⟨rUp A1 2 0 4 (M 15 0 35), rUp M1 15 0 36 (M 15 0 35), ?_, ?_, qZ_upV hR (by decide) (fH_trans bk (fH_fld (fH_sub fA (by decide) (by decide)) (by decide))) (fH_fld (fH_sub fM (by decide) (by decide)) (by decide))⟩
      · unfold fn156
        simp only [zLet, List.getD_cons_zero, List.getD_cons_succ, w1, x8, a6, fn109_eq]
        rw [if_pos (show (1 : Int) ≤ 1 by decide), if_neg hw]
      · unfold qRk
        simp only [zLet, w2, f13]
        rw [if_pos (show (1 : Int) ≤ 1 by decide), if_neg (show ¬ (1 : Int) ≤ 0 by decide), fn8_ge (by rw [y34]; exact at1)]
  · refine Or.inr ⟨_, _, ?_, ?_, qZ_upV hR (by decide) (c_q := rUp (rUp (rUp (rUp A 2 0 9 (M 15 0 35)) 2 0 8 w_q) 2 0 6 e) 2 0 4 (M 15 0 35)) (m_q := rUp (rUp (rUp M 15 0 37 (M 15 0 35)) 15 0 38 (e - M 15 0 35)) 15 0 36 (M 15 0 35)) (fH_fld (fH_fld (fH_fld (fH_fld bk (by decide)) (by decide)) (by decide)) (by decide)) (fH_fld (fH_fld (fH_fld fH_refl (by decide)) (by decide)) (by decide))⟩
    · unfold fn156
      simp only [zLet, List.getD_cons_zero, List.getD_cons_succ, w1]
      rw [if_neg (show ¬ (1 : Int) ≤ 0 by decide)]
    · unfold qRk
      simp only [zLet, w2]
      rw [if_neg (show ¬ (1 : Int) ≤ 0 by decide)]
