/-! ===== a VARIABLE or a tally in the HEAD, by both ===== -/
theorem qHs_up {H : Int → Prop} {c m c_q m_q : rHp} {L L2 : List Nat} {J J2 : List Int} {h i : Int} (hs : qHs H c m h i) (fc : fH 2 L J c c_q) (hL : ∀ x ∈ [3, 10, 25, 26, 43, 44, 46], x ∉ L) (hJ : ∀ x ∈ [(5 : Int), 16], x ∉ J) (fm : fH 15 L2 J2 m m_q) (hL2 : ∀ x ∈ [61, 62, 63, 74, 84, 85, 87, 89, 90, 91], x ∉ L2) (hJ2 : ∀ x ∈ [(8 : Int), 9, 44, 45, 48, 49, 50, 58], x ∉ J2) (ha : m 15 0 35 ≤ m_q 15 0 35) : qHs H c_q m_q h i := by
  obtain ⟨s1, s2, s3, s4, s5, s6, s7, s8, s9, s10⟩ := hs
  have k : ∀ G, G ∈ [3, 10, 25, 26, 43, 44, 46] → c_q G = c G := fun G q => fc.1 G (hL G q) (by rintro rfl; exact absurd q (by decide))
  have n : ∀ G, G ∈ [61, 62, 63, 74, 84, 85, 87, 89, 90, 91] → m_q G = m G := fun G q => fm.1 G (hL2 G q) (by rintro rfl; exact absurd q (by decide))
  have j : ∀ x, x ∈ [(8 : Int), 9, 44, 45, 48, 49, 50, 58] → m_q 15 0 x = m 15 0 x := fun x q => fm.2 x (hJ2 x q)
  have k10 := k 10 (by decide)
  have k43 := k 43 (by decide)
  have k44 := k 44 (by decide)
  have k46 := k 46 (by decide)
  refine ⟨qB_up s1 (fc.2 5 (hJ 5 (by decide))) (fc.2 16 (hJ 16 (by decide))) (k 25 (by decide)) fm (fun x q => hL2 x (by simp only [List.mem_cons, List.not_mem_nil, or_false] at q ⊢; omega)) (fun x q => hJ2 x (by simp only [List.mem_cons, List.not_mem_nil, or_false] at q ⊢; omega)) ha, ?_, ?_, ?_, ?_, ?_, ?_, ?_, ?_, ?_⟩
  · rw [k10]; exact s2
  · rw [k10]; exact s3
  · rw [j 48 (by decide)]; exact s4
  · rw [k10, j 49 (by decide)]; exact s5
  · rw [k10]; exact s6
  · intro x x0 x1
    unfold hArg
    rw [k43, k44, k46, n 85 (by decide), n 87 (by decide), n 74 (by decide), j 44 (by decide)]
    rcases s7 x x0 x1 with ⟨q1, q2, q3⟩ | q | q
    · exact Or.inl ⟨q1, q2, vR_up q3 (k 3 (by decide)) (k 26 (by decide)) (j 8 (by decide)) (j 9 (by decide)) (n 61 (by decide)) (n 62 (by decide)) (n 63 (by decide))⟩
    · exact Or.inr (Or.inl q)
    · exact Or.inr (Or.inr q)
  · rw [k10]; exact s8
  · rw [k10, k43]; exact s9
  · unfold qHx
    rw [k10, k43, k46, j 50 (by decide)]; exact s10
/-- what is KNOWN, owed and standing when a VARIABLE is met -/
theorem qB_var {H : Int → Prop} {c m c3 m_q : rHp} {v : Int} (hB : qB H c m) (h17 : fn17 [] m = (0, 1, m_q)) (h0 : 0 ≤ m 15 0 35) (h1 : m 15 0 35 ≤ 10239) (ha : m 15 0 35 < m_q 15 0 35) (hc : 0 ≤ m 74 0 (m 15 0 44)) (hcnt : m_q 74 0 (m_q 15 0 44) = m 74 0 (m 15 0 44) ∨ m_q 74 0 (m_q 15 0 44) = m 74 0 (m 15 0 44) + 1 ∧ v = m 74 0 (m 15 0 44)) (fc : fH 2 [22, 23] [6, 8, 9, 13] c c3) (fm : fH 15 [74, 82, 83, 84] [35, 37, 38, 39, 40] m m_q) : qB H c3 m_q := by
  obtain ⟨s1, s2, s3, s4, s5⟩ := hB
  have cmono : m 74 0 (m 15 0 44) ≤ m_q 74 0 (m_q 15 0 44) := by
    rcases hcnt with q | q <;> omega
  refine ⟨qS_var h17 s1 h0 h1 ha hc, qO_up s2 (fc.2 16 (by decide)) (fc.1 25 (by decide) (by decide)) (fm.2 58 (by decide)) (fm.1 89 (by decide) (by decide)) (fm.1 90 (by decide) (by decide)) (fm.1 91 (by decide) (by decide)) cmono, ?_, ?_, ?_⟩
  · rw [fc.2 5 (by decide), fm.2 45 (by decide)]; exact s3
  · rw [fc.2 5 (by decide)]; exact s4
  · intro z z0 z1
    rw [fc.2 5 (by decide)]
    exact s5 z (by omega) z1
/-- a VARIABLE in the HEAD -/
theorem hvar_two {H : Int → Prop} {c0 m0 c m c1 m3 : rHp} {h i : Int} (hR : qR 0 c0 m0 c1 m3) (hs : qHs H c1 m3 h i) (hi : 0 ≤ i) (hi4 : i < 4) (h00 : 0 ≤ c0 1000 0 0) (hlim : 2 * c0 1000 0 0 + m0 15 0 34 ≤ 10239) (hsk : pSk (m3 59 0) (m3 15 0 34) (m3 15 0 35) = m3 15 0 35) (hn : m3 15 0 35 < m3 15 0 34) (hca : pCa (m3 59 0 (m3 15 0 35)) = true) (fc : fH 2 [] [6] c c1) (fm : fH 15 [86] [35] m m3) :
    qHo c0 m0 c m h i (if 1 ≤ (fn115 [] c1).2.1 then (if 1 ≤ (fn137 [h] (fn115 [] c1).2.2).2.1 then (0, 1, (fn137 [h] (fn115 [] c1).2.2).2.2) else (0, 0, (fn137 [h] (fn115 [] c1).2.2).2.2)) else (0, 0, (fn115 [] c1).2.2)) (qHb i (fn20 [0] m3)) := by
  have e34 : m3 15 0 34 = m0 15 0 34 := hR.2.2.2.2.2.2.2.1.2 34 (by decide)
  have a0 := hR.2.1.2.1
  rcases var_R hR hn hca [] [] with ⟨w, c2, v, c3, m_q, r1, r2, r3, r4, r5, r6, r7, r8, r9, r10, r11, r12, r13, r14, r15, r16, r17, r18⟩ | ⟨c2, m_q, r1, r2, r3⟩ | ⟨w, c2, m_q, r1, r2, r3, r4, r5, r6, r7⟩
  · have h20 := item_var (any := 0) hsk hn hca r6 (Or.inr rfl)
    have z5 : c3 10 h 5 = i := by rw [r14.1 10 (by decide) (by decide)]; exact hs.2.2.1
    obtain ⟨p1, p2, p3, p4⟩ := put_at (kd := 1) (pl := m3 15 0 35) (sl := v) (v := 0) z5 hi4
    have fx := fn104_fr (g := h) (k := 1) (p := m3 15 0 35) (s := v) (v := 0) (c := c3)
    have h137 : fn137 [h] c2 = (0, 1, (fn104 [h, 1, m3 15 0 35, v, 0] c3).2.2) := by
      unfold fn137
      simp only [zLet, List.getD_cons_zero, r2, r3, r5]
      rw [if_pos (show v ≥ 0 from r7), if_pos (by rw [r4.1 10 (by decide) (by decide)]; exact hs.2.1)]
    generalize (fn104 [h, 1, m3 15 0 35, v, 0] c3).2.2 = c_q at *
    obtain ⟨s1, s2, s3, s4, s5, s6, s7, s8, s9, s10⟩ := hs
    have e10 : ∀ j, c3 10 h j = c1 10 h j := fun j => by rw [r14.1 10 (by decide) (by decide)]
    have c12 : c_q 10 h 12 = c1 10 h 12 := by rw [p4, if_neg (by decide), e10]
    have c14 : c_q 10 h 14 = c1 10 h 14 := by rw [p4, if_neg (by decide), e10]
    have c13 : c_q 10 h 13 = c1 10 h 13 := by rw [p4, if_neg (by decide), e10]
    have gc : gNc c1 c_q := gNc_trans (gNc_fl r14 (by decide) (by decide)) (gNc_fl fx (by decide) (by decide))
    have gm : gNm m3 m_q := gNm_fl r15 (by decide) (by decide) (by decide) (by decide) (by decide)
    have hB3 : qB H c3 m_q := qB_var s1 r6 a0 (by omega) r16 hR.2.2.2.2.1.2.1 r10 r14 r15
    have hB_q : qB H c_q m_q := qB_c hB3 (fx.2 5 (by decide)) (fx.2 16 (by decide)) (fx.1 25 (by decide) (by decide))
    have hadd := qHs_add (H_q := H) (c_q := c_q) (mF := m_q) (kd := 1) (v := m_q 15 0 39) ⟨s1, s2, s3, s4, s5, s6, s7, s8, s9, s10⟩ hi hB_q (by rw [p4, if_neg (by decide), e10]; exact s2) (by rw [p4, if_pos rfl]) (by rw [c12, s5, r15.2 49 (by decide)]) (by rw [c12]; exact s6)
      (fun k hk => ⟨by rw [p1, if_neg hk, r14.1 43 (by decide) (by decide)], by rw [p2, if_neg hk, r14.1 44 (by decide) (by decide)], by rw [p3, if_neg hk, r14.1 46 (by decide) (by decide)]⟩) gc gm (r15.1 85 (by decide) (by decide)) (r15.1 87 (by decide) (by decide)) (by rcases r10 with q | q <;> omega)
      (Or.inr (Or.inl ⟨by rw [p1, if_pos rfl], rfl, by rw [p2, if_pos rfl, r12], by rw [p2, if_pos rfl]; exact ⟨r7, r8⟩, by rw [p2, if_pos rfl]; exact r9⟩)) (by rw [c12, c14]; exact s8) (Or.inr ⟨by rw [p1, if_pos rfl]; decide, c12⟩) (Or.inl ⟨c12, c13, c14, r15.2 50 (by decide), by rw [p1, if_pos rfl]; decide⟩)
    have fF : fH 15 [85, 87] [48] m_q (rUp (rUp (rUp m_q 85 0 i 1) 87 0 i (m_q 15 0 39)) 15 0 48 (i + 1)) := fH_fld (fH_grp (fH_grp fH_refl (by decide) (by decide)) (by decide) (by decide)) (by decide)
    refine Or.inl ⟨H, c_q, rUp (rUp (rUp m_q 85 0 i 1) 87 0 i (m_q 15 0 39)) 15 0 48 (i + 1), ?_, ?_, ?_, hadd, ?_, ?_, ?_, ?_, by rw [p4, if_neg (by decide), e10, fc.1 10 (by decide) (by decide)], fun k hk => by rw [p3, if_neg hk, r14.1 46 (by decide) (by decide), fc.1 46 (by decide) (by decide)]⟩
    · rw [r1]
      simp only [h137]
      rw [if_pos (show (1 : Int) ≤ 1 by decide), if_pos (show (1 : Int) ≤ 1 by decide)]
    · unfold qHb
      rw [h20]
      simp only [r13]
      exact if_pos (show (1 : Int) ≤ 1 by decide)
    · refine qR_up r11 (fH_sub fx (by decide) (by decide)) (fH_sub fF (by decide) (by decide)) ?_ ?_ ?_ ?_
      · rw [fx.2 6 (by decide), fF.2 35 (by decide)]; exact r11.2.1.1
      · rw [fF.2 35 (by decide)]; omega
      · rw [fF.2 35 (by decide)]; exact r11.2.1.2.1
      · rw [fF.2 35 (by decide)]; exact r11.2.1.2.2
    · exact fH_trans (fH_trans (fH_sub fc (by decide) (by decide)) (fH_sub r14 (by decide) (by decide))) (fH_sub fx (by decide) (by decide))
    · exact fH_trans (fH_trans (fH_sub fm (by decide) (by decide)) (fH_sub r15 (by decide) (by decide))) (fH_sub fF (by decide) (by decide))
    · exact gNc_trans (gNc_fl fc (by decide) (by decide)) gc
    · exact gNm_trans (gNm_trans (gNm_fl fm (by decide) (by decide) (by decide) (by decide) (by decide)) gm) (gNm_fl fF (by decide) (by decide) (by decide) (by decide) (by decide))
  · have h20 := item_var (any := 0) hsk hn hca r2 (Or.inl rfl)
    refine Or.inr ⟨c2, m_q, ?_, ?_, r3⟩
    · rw [r1]
      exact if_neg (show ¬ (1 : Int) ≤ 0 by decide)
    · unfold qHb
      rw [h20]
      exact if_neg (show ¬ (1 : Int) ≤ 0 by decide)
  · have h20 := item_var (any := 0) hsk hn hca r6 (Or.inl rfl)
    have h137 : fn137 [h] c2 = (0, 0, rUp c2 2 0 4 (m3 15 0 35)) := by
      unfold fn137
      simp only [zLet, List.getD_cons_zero, r2, r3, r5, fn109_eq]
      rw [if_neg (show ¬ (-1 : Int) ≥ 0 by decide)]
    refine Or.inr ⟨rUp c2 2 0 4 (m3 15 0 35), m_q, ?_, ?_, qZ_more r7 (fH_fld fH_refl (by decide)) fH_refl⟩
    · rw [r1]
      simp only [h137]
      rw [if_pos (show (1 : Int) ≤ 1 by decide), if_neg (show ¬ (1 : Int) ≤ 0 by decide)]
    · unfold qHb
      rw [h20]
      exact if_neg (show ¬ (1 : Int) ≤ 0 by decide)
/-- a tally in the HEAD: c1, m3 stand at the # -/
theorem htal_two {H : Int → Prop} {c0 m0 c m c1 m3 : rHp} {h i : Int} (hh : h = 9 * c1 40 0 (c1 1 0 10)) (hR : qR 0 c0 m0 c1 m3) (hs : qHs H c1 m3 h i) (hi : 0 ≤ i) (hi4 : i < 4) (h00 : 0 ≤ c0 1000 0 0) (hlim : 2 * c0 1000 0 0 + m0 15 0 34 ≤ 10239) (hn : m3 15 0 35 < m3 15 0 34) (fc : fH 2 [] [6] c c1) (fm : fH 15 [86] [35] m m3) :
    qHo c0 m0 c m h i (fn140 [] c1) (qHb i (fn26 [] m3)) := by
  have a6 := hR.2.1.1
  have a0 := hR.2.1.2.1
  have e34 : m3 15 0 34 = m0 15 0 34 := hR.2.2.2.2.2.2.2.1.2 34 (by decide)
  obtain ⟨s1, s2, s3, s4, s5, s6, s7, s8, s9, s10⟩ := hs
  have bad : ∀ c_q m_q, fn140 [] c1 = (0, 0, c_q) → fn26 [] m3 = (0, 0, m_q) → qZ c0 m0 c_q m_q → qHo c0 m0 c m h i (fn140 [] c1) (qHb i (fn26 [] m3)) := by
    intro c_q m_q q1 q2 q3
    refine Or.inr ⟨c_q, m_q, q1, ?_, q3⟩
    unfold qHb
    rw [q2]
    exact if_neg (show ¬ (1 : Int) ≤ 0 by decide)
  by_cases ht : c1 10 h 12 = 0
  · have h49 : m3 15 0 49 ≤ 0 := by rw [← s5, ht]; decide
    have z5 : rUp c1 10 h 13 i 10 h 5 = i := by rw [rUp_ne (fun y => absurd y.2.2 (by decide))]; exact s3
    obtain ⟨p1, p2, p3, p4⟩ := put_at (kd := 4) (pl := m3 15 0 35) (sl := 0) (v := 0) z5 hi4
    have fx : fH 2 [10, 43, 44, 45, 46] [] c1 (fn104 [h, 4, m3 15 0 35, 0, 0] (rUp c1 10 h 13 i)).2.2 := fH_trans (fH_grp fH_refl (by decide) (by decide)) fn104_fr
    have q10 : ∀ j, j ≠ 13 → rUp c1 10 h 13 i 10 h j = c1 10 h j := fun j z => rUp_ne (fun y => z y.2.2)
    have qg : ∀ G : Nat, G ≠ 10 → rUp c1 10 h 13 i G = c1 G := fun G z => rUp_grp z
    have E1 : fn140 [] c1 = (let X3 := (fn114 [] (rUp (fn104 [h, 4, m3 15 0 35, 0, 0] (rUp c1 10 h 13 i)).2.2 2 0 6 (m3 15 0 35 + 1)))
        if 0 ≤ X3.2.1 ∧ pSm X3.2.1 = true then
          (if 1 ≤ (fn115 [] X3.2.2).2.1 then
            (let X5 := rUp (fn115 [] X3.2.2).2.2 10 h 12 (qTy ((fn115 [] X3.2.2).2.2 2 0 8))
             let t := qTy ((fn115 [] X3.2.2).2.2 2 0 8)
             if t = 0 then (0, 0, rUp X5 2 0 4 (X3.2.2 2 0 6)) else if t = 1 then (0, 1, X5) else
              (let X6 := fn114 [] X5
               if 0 ≤ X6.2.1 ∧ pCa X6.2.1 = true then
                 (if 1 ≤ (fn115 [] X6.2.2).2.1 then
                   (let X7 := fn120 [(fn115 [] X6.2.2).2.2 2 0 8] (rUp (fn115 [] X6.2.2).2.2 10 h 15 (X6.2.2 2 0 6))
                    if X7.2.1 ≥ 0 then (0, 1, rUp X7.2.2 10 h 14 X7.2.1) else (0, 0, rUp (rUp X7.2.2 10 h 14 X7.2.1) 2 0 4 (X6.2.2 2 0 6)))
                 else (0, 0, (fn115 [] X6.2.2).2.2))
               else (0, 0, rUp X6.2.2 2 0 4 (X6.2.2 2 0 6))))
          else (0, 0, (fn115 [] X3.2.2).2.2))
        else (0, 0, rUp X3.2.2 2 0 4 (X3.2.2 2 0 6))) := by
      unfold fn140
      simp only [zLet, a6, ← hh, s3, ht, fn105_eq, fn106_eq, pBit_ge, fn122_eq, fn109_eq]
      rw [if_pos trivial]
      generalize fn114 [] (rUp (fn104 [h, 4, m3 15 0 35, 0, 0] (rUp c1 10 h 13 i)).2.2 2 0 6 (m3 15 0 35 + 1)) = X3
      by_cases b1 : 0 ≤ X3.2.1
      · rw [if_pos b1]
        by_cases b2 : pSm X3.2.1 = true
        · rw [if_pos b2, if_pos (show 0 ≤ X3.2.1 ∧ pSm X3.2.1 = true from ⟨b1, b2⟩)]
          by_cases b3 : 1 ≤ (fn115 [] X3.2.2).2.1
          · rw [if_pos b3, if_pos b3]
            by_cases b4 : qTy ((fn115 [] X3.2.2).2.2 2 0 8) = 0
            · rw [if_neg (fun z => z b4), if_pos b4]
            · rw [if_pos b4, if_neg b4]
              by_cases b5 : qTy ((fn115 [] X3.2.2).2.2 2 0 8) = 1
              · rw [if_neg (fun z => z b5), if_pos b5]
              · rw [if_pos b5, if_neg b5]
                generalize fn114 [] (rUp (fn115 [] X3.2.2).2.2 10 h 12 (qTy ((fn115 [] X3.2.2).2.2 2 0 8))) = X6
                by_cases b6 : 0 ≤ X6.2.1
                · rw [if_pos b6]
                  by_cases b7 : pCa X6.2.1 = true
                  · rw [if_pos b7, if_pos (show 0 ≤ X6.2.1 ∧ pCa X6.2.1 = true from ⟨b6, b7⟩)]
                  · rw [if_neg b7, if_neg (show ¬ (0 ≤ X6.2.1 ∧ pCa X6.2.1 = true) from fun z => b7 z.2)]
                · rw [if_neg b6, if_neg (show ¬ (0 ≤ X6.2.1 ∧ pCa X6.2.1 = true) from fun z => b6 z.1)]
          · rw [if_neg b3, if_neg b3]
        · rw [if_neg b2, if_neg (show ¬ (0 ≤ X3.2.1 ∧ pSm X3.2.1 = true) from fun z => b2 z.2)]
      · rw [if_neg b1, if_neg (show ¬ (0 ≤ X3.2.1 ∧ pSm X3.2.1 = true) from fun z => b1 z.1)]
    have p1_q : ∀ k, (fn104 [h, 4, m3 15 0 35, 0, 0] (rUp c1 10 h 13 i)).2.2 43 h k = if k = i then 4 else c1 43 h k := fun k => by rw [p1, qg 43 (by decide)]
    have p2_q : ∀ k, k ≠ i → (fn104 [h, 4, m3 15 0 35, 0, 0] (rUp c1 10 h 13 i)).2.2 44 h k = c1 44 h k := fun k z => by rw [p2, if_neg z, qg 44 (by decide)]
    have p3_q : ∀ k, k ≠ i → (fn104 [h, 4, m3 15 0 35, 0, 0] (rUp c1 10 h 13 i)).2.2 46 h k = c1 46 h k := fun k z => by rw [p3, if_neg z, qg 46 (by decide)]
    have p4_q : ∀ j, j ≠ 13 → (fn104 [h, 4, m3 15 0 35, 0, 0] (rUp c1 10 h 13 i)).2.2 10 h j = if j = 5 then i + 1 else c1 10 h j := fun j z => by rw [p4, q10 j z]
    have p5_q : (fn104 [h, 4, m3 15 0 35, 0, 0] (rUp c1 10 h 13 i)).2.2 10 h 13 = i := by rw [p4, if_neg (by decide), rUp_at]
    have p6_q : (fn104 [h, 4, m3 15 0 35, 0, 0] (rUp c1 10 h 13 i)).2.2 46 h i = 0 := by rw [p3, if_pos rfl]
    generalize (fn104 [h, 4, m3 15 0 35, 0, 0] (rUp c1 10 h 13 i)).2.2 = X1 at *
    have f12 : fH 2 [] [6] X1 (rUp X1 2 0 6 (m3 15 0 35 + 1)) := fH_fld fH_refl (by decide)
    have x26 : rUp X1 2 0 6 (m3 15 0 35 + 1) 2 0 6 = m3 15 0 35 + 1 := rUp_at
    have fM1 : fH 15 [] [35] m3 (rUp m3 15 0 35 (m3 15 0 35 + 1)) := fH_fld fH_refl (by decide)
    have y135 : rUp m3 15 0 35 (m3 15 0 35 + 1) 15 0 35 = m3 15 0 35 + 1 := rUp_at
    have E2a := fun M w => fn26_eq (m := m3) (M := M) (w := w) h49
    have E2b := fun M => fn26_bad (m := m3) (M := M) h49
    generalize rUp X1 2 0 6 (m3 15 0 35 + 1) = X2 at *
    generalize rUp m3 15 0 35 (m3 15 0 35 + 1) = M1 at *
    have y134 : M1 15 0 34 = m3 15 0 34 := fM1.2 34 (by decide)
    have y159 : M1 59 = m3 59 := fM1.1 59 (by decide) (by decide)
    have fc2 : fH 2 [10, 43, 44, 45, 46] [6] c1 X2 := fH_trans (fH_sub fx (by decide) (by decide)) (fH_sub f12 (by decide) (by decide))
    have hR2 : qR 0 c0 m0 X2 M1 := by
      refine qR_up hR (fH_sub fc2 (by decide) (by decide)) (fH_sub fM1 (by decide) (by decide)) ?_ ?_ ?_ ?_
      · rw [x26, y135]
      · rw [y135]; omega
      · rw [y135]; omega
      · rw [y135]; omega
    obtain ⟨q, L2, l1, l2, l3, l4, l5, l6, l7⟩ := look_two hR2.1 hR2.2.1 [] []
    have h23 := fn23_is l2 l4
    rw [y135] at l3
    rw [y134] at l4 l5 l6 l7 h23
    rw [y159] at l5 l7 h23
    have f23 : fH 2 [] [6] X2 (rUp X2 2 0 6 q) := fH_fld fH_refl (by decide)
    have x36 : rUp X2 2 0 6 q 2 0 6 = q := rUp_at
    have g12 : fH 15 [] [35] M1 (rUp M1 15 0 35 q) := fH_fld fH_refl (by decide)
    have y235 : rUp M1 15 0 35 q 15 0 35 = q := rUp_at
    rw [l1] at E1
    simp only [x36] at E1
    generalize rUp X2 2 0 6 q = X3 at *
    generalize rUp M1 15 0 35 q = M2 at *
    have y234 : M2 15 0 34 = m3 15 0 34 := (g12.2 34 (by decide)).trans y134
    have y259 : M2 59 = m3 59 := (g12.1 59 (by decide) (by decide)).trans y159
    have hR3 : qR 0 c0 m0 X3 M2 := by
      refine qR_up hR2 (fH_sub f23 (by decide) (by decide)) (fH_sub g12 (by decide) (by decide)) ?_ ?_ ?_ ?_
      · rw [x36, y235]
      · rw [y235]; omega
      · rw [y235]; omega
      · rw [y235, y134]; exact l4
    by_cases hq : q < m3 15 0 34 ∧ pSm (m3 59 0 q) = true
    · rw [if_pos hq] at h23
      have hL2 : 0 ≤ L2 ∧ pSm L2 = true := ⟨l6.2 hq.1, by rw [qL_sm l5, pB_in hq.1]; exact hq.2⟩
      rw [if_pos hL2] at E1
      rcases word_two (q := pSm) hR3.1 hR3.2.1 (by rw [y235, y234]; exact hq.1) (by rw [y235, y259]; exact hq.2) [] [] with ⟨e, w, w1, w2, w3, w4, w5⟩ | ⟨e, w, w1, w2⟩
      · rw [y235] at w1 w2 w3 w5
        rw [y234] at w4 w5
        rw [y259] at w5
        have f34 : fH 2 [] [6, 8, 9] X3 (rUp (rUp (rUp X3 2 0 9 q) 2 0 8 w) 2 0 6 e) := fH_fld (fH_fld (fH_fld fH_refl (by decide)) (by decide)) (by decide)
        have x48 : rUp (rUp (rUp X3 2 0 9 q) 2 0 8 w) 2 0 6 e 2 0 8 = w := by rw [rUp_ne (by decide), rUp_at]
        have x46 : rUp (rUp (rUp X3 2 0 9 q) 2 0 8 w) 2 0 6 e 2 0 6 = e := rUp_at
        have g23 : fH 15 [] [35, 37, 38] M2 (rUp (rUp (rUp M2 15 0 37 q) 15 0 38 (e - q)) 15 0 35 e) := fH_fld (fH_fld (fH_fld fH_refl (by decide)) (by decide)) (by decide)
        have y335 : rUp (rUp (rUp M2 15 0 37 q) 15 0 38 (e - q)) 15 0 35 e 15 0 35 = e := rUp_at
        have y338 : rUp (rUp (rUp M2 15 0 37 q) 15 0 38 (e - q)) 15 0 35 e 15 0 38 = e - q := by rw [rUp_ne (by decide), rUp_at]
        have y337 : rUp (rUp (rUp M2 15 0 37 q) 15 0 38 (e - q)) 15 0 35 e 15 0 37 = q := by rw [rUp_ne (by decide), rUp_ne (by decide), rUp_at]
        rw [w2] at h23
        rw [if_pos (show (1 : Int) ≤ 1 by decide)] at h23
        rw [w1] at E1
        simp only [x48] at E1 h23
        rw [if_pos (show (1 : Int) ≤ 1 by decide)] at E1
        generalize rUp (rUp (rUp X3 2 0 9 q) 2 0 8 w) 2 0 6 e = X4 at *
        generalize rUp (rUp (rUp M2 15 0 37 q) 15 0 38 (e - q)) 15 0 35 e = M3 at *
        have f14 : fH 2 [] [6, 8, 9] X1 X4 := fH_trans (fH_trans (fH_sub f12 (by decide) (by decide)) (fH_sub f23 (by decide) (by decide))) f34
        have gM3 : fH 15 [] [35, 37, 38] m3 M3 := fH_trans (fH_trans (fH_sub fM1 (by decide) (by decide)) (fH_sub g12 (by decide) (by decide))) g23
        have y334 : M3 15 0 34 = m3 15 0 34 := gM3.2 34 (by decide)
        have y359 : M3 59 = m3 59 := gM3.1 59 (by decide) (by decide)
        have E2 := E2a M3 w h23 (by rw [y359, y334, y337, y338]; exact w5)
        have hR4 : qR 0 c0 m0 X4 M3 := by
          refine qR_up hR3 (fH_sub f34 (by decide) (by decide)) (fH_sub g23 (by decide) (by decide)) ?_ ?_ ?_ ?_
          · rw [x46, y335]
          · rw [y335, y235]; omega
          · rw [y335]; omega
          · rw [y335, y234]; exact w4
        have fcX4 : fH 2 [10, 43, 44, 45, 46] [6, 8, 9] c1 X4 := fH_trans (fH_sub fx (by decide) (by decide)) (fH_sub f14 (by decide) (by decide))
        have hB4 : qB H X4 M3 := qB_up s1 (fcX4.2 5 (by decide)) (fcX4.2 16 (by decide)) (fcX4.1 25 (by decide) (by decide)) gM3 (by decide) (by decide) (by rw [y335]; omega)
        have tr := qTy_rg w
        have cell : ∀ j, j ≠ 13 → X4 10 h j = if j = 5 then i + 1 else c1 10 h j := fun j z => by rw [f14.1 10 (by decide) (by decide)]; exact p4_q j z
        have f5 : fH 2 [10] [] X4 (rUp X4 10 h 12 (qTy w)) := fH_grp fH_refl (by decide) (by decide)
        have x512 : rUp X4 10 h 12 (qTy w) 10 h 12 = qTy w := rUp_at
        have x5o : ∀ j, j ≠ 12 → rUp X4 10 h 12 (qTy w) 10 h j = X4 10 h j := fun j z => rUp_ne (fun y => z y.2.2)
        generalize rUp X4 10 h 12 (qTy w) = X5 at *
        by_cases t0 : qTy w = 0
        · rw [if_pos t0] at E1
          rw [if_neg (by omega), if_pos t0] at E2
          exact bad _ _ E1 E2 (qZ_up hR4 (by decide) (fH_fld (fH_sub f5 (by decide) (by decide)) (by decide)) (fH_trans (fH_fld fH_refl (by decide)) (fH_sub fn8_fr (by decide) (by decide))))
        · rw [if_neg t0] at E1
          by_cases t1 : qTy w = 1
          · rw [if_pos t1] at E1
            rw [if_pos t1] at E2
            have gF : fH 15 [] [39, 40, 49] M3 (rUp (rUp (rUp M3 15 0 49 1) 15 0 40 3) 15 0 39 0) := fH_fld (fH_fld (fH_fld fH_refl (by decide)) (by decide)) (by decide)
            have n49 : rUp (rUp (rUp M3 15 0 49 1) 15 0 40 3) 15 0 39 0 15 0 49 = 1 := by rw [rUp_ne (by decide), rUp_ne (by decide), rUp_at]
            have n40 : rUp (rUp (rUp M3 15 0 49 1) 15 0 40 3) 15 0 39 0 15 0 40 = 3 := by rw [rUp_ne (by decide), rUp_at]
            generalize rUp (rUp (rUp M3 15 0 49 1) 15 0 40 3) 15 0 39 0 = mF at *
            have gm3F : fH 15 [] [35, 37, 38, 39, 40, 49] m3 mF := fH_trans (fH_sub gM3 (by decide) (by decide)) (fH_sub gF (by decide) (by decide))
            have fc15 : fH 2 [10, 43, 44, 45, 46] [6, 8, 9] c1 X5 := fH_trans fcX4 (fH_sub f5 (by decide) (by decide))
            have gc : gNc c1 X5 := gNc_fl fc15 (by decide) (by decide)
            have gm : gNm m3 mF := gNm_fl gm3F (by decide) (by decide) (by decide) (by decide) (by decide)
            have b43 : ∀ k, X5 43 h k = if k = i then 4 else c1 43 h k := fun k => by rw [f5.1 43 (by decide) (by decide), f14.1 43 (by decide) (by decide)]; exact p1_q k
            have hB5 : qB H X5 mF := qB_up hB4 (f5.2 5 (by decide)) (f5.2 16 (by decide)) (f5.1 25 (by decide) (by decide)) gF (by decide) (by decide) (by rw [gF.2 35 (by decide)]; exact Int.le_refl _)
            have hadd := qHs_add (H_q := H) (c_q := X5) (mF := mF) (kd := 3) (v := mF 15 0 39) ⟨s1, s2, s3, s4, s5, s6, s7, s8, s9, s10⟩ hi hB5 (by rw [x5o _ (by decide), cell _ (by decide), if_neg (by decide)]; exact s2) (by rw [x5o _ (by decide), cell _ (by decide), if_pos rfl]) (by rw [x512, t1, n49]) (by rw [x512, t1]; decide)
              (fun k hk => ⟨by rw [b43, if_neg hk], by rw [f5.1 44 (by decide) (by decide), f14.1 44 (by decide) (by decide)]; exact p2_q k hk, by rw [f5.1 46 (by decide) (by decide), f14.1 46 (by decide) (by decide)]; exact p3_q k hk⟩) gc gm (gm3F.1 85 (by decide) (by decide)) (gm3F.1 87 (by decide) (by decide)) (by rw [gm3F.1 74 (by decide) (by decide), gm3F.2 44 (by decide)]; exact Int.le_refl _)
              (Or.inr (Or.inr ⟨by rw [b43, if_pos rfl], rfl⟩)) (fun u => by rw [s8 u, x512, t1, ht]; constructor <;> (intro z; have := z.1; omega)) (Or.inl ⟨by rw [b43, if_pos rfl], by rw [x512, t1]; decide⟩) (Or.inr ⟨ht, by rw [x5o 13 (by decide), f14.1 10 (by decide) (by decide)]; exact p5_q, by rw [f5.1 46 (by decide) (by decide), f14.1 46 (by decide) (by decide)]; exact p6_q, fun z => by rw [x512, t1] at z; omega⟩)
            have fF : fH 15 [85, 87] [48] mF (rUp (rUp (rUp mF 85 0 i 3) 87 0 i (mF 15 0 39)) 15 0 48 (i + 1)) := fH_fld (fH_grp (fH_grp fH_refl (by decide) (by decide)) (by decide) (by decide)) (by decide)
            refine Or.inl ⟨H, X5, rUp (rUp (rUp mF 85 0 i 3) 87 0 i (mF 15 0 39)) 15 0 48 (i + 1), E1, ?_, ?_, hadd, ?_, ?_, ?_, ?_, by rw [x5o 6 (by decide), cell 6 (by decide), if_neg (by decide), fc.1 10 (by decide) (by decide)], fun k hk => by rw [f5.1 46 (by decide) (by decide), f14.1 46 (by decide) (by decide), p3_q k hk, fc.1 46 (by decide) (by decide)]⟩
            · unfold qHb
              rw [E2]
              simp only [n40]
              exact if_pos (show (1 : Int) ≤ 1 by decide)
            · have fG : fH 15 [85, 87] [39, 40, 49, 48] M3 (rUp (rUp (rUp mF 85 0 i 3) 87 0 i (mF 15 0 39)) 15 0 48 (i + 1)) := fH_trans (fH_sub gF (by decide) (by decide)) (fH_sub fF (by decide) (by decide))
              refine qR_up hR4 (fH_sub f5 (by decide) (by decide)) (fH_sub fG (by decide) (by decide)) ?_ ?_ ?_ ?_
              · rw [f5.2 6 (by decide), fG.2 35 (by decide)]; exact hR4.2.1.1
              · rw [fG.2 35 (by decide)]; omega
              · rw [fG.2 35 (by decide)]; exact hR4.2.1.2.1
              · rw [fG.2 35 (by decide)]; exact hR4.2.1.2.2
            · exact fH_trans (fH_sub fc (by decide) (by decide)) (fH_sub fc15 (by decide) (by decide))
            · exact fH_trans (fH_trans (fH_sub fm (by decide) (by decide)) (fH_sub gm3F (by decide) (by decide))) (fH_sub fF (by decide) (by decide))
            · exact gNc_trans (gNc_fl fc (by decide) (by decide)) gc
            · exact gNm_trans (gNm_trans (gNm_fl fm (by decide) (by decide) (by decide) (by decide) (by decide)) gm) (gNm_fl fF (by decide) (by decide) (by decide) (by decide) (by decide))
          · rw [if_neg t1] at E1
            rw [if_neg t1, if_neg t0] at E2
            have g35 : fH 15 [] [49] M3 (rUp M3 15 0 49 (qTy w)) := fH_fld fH_refl (by decide)
            have n49 : rUp M3 15 0 49 (qTy w) 15 0 49 = qTy w := rUp_at
            generalize rUp M3 15 0 49 (qTy w) = M5 at *
            have y534 : M5 15 0 34 = m3 15 0 34 := (g35.2 34 (by decide)).trans y334
            have y559 : M5 59 = m3 59 := (g35.1 59 (by decide) (by decide)).trans y359
            have hR5 : qR 0 c0 m0 X5 M5 := by
              refine qR_up hR4 (fH_sub f5 (by decide) (by decide)) (fH_sub g35 (by decide) (by decide)) ?_ ?_ ?_ ?_
              · rw [f5.2 6 (by decide), g35.2 35 (by decide)]; exact hR4.2.1.1
              · rw [g35.2 35 (by decide)]; exact Int.le_refl _
              · rw [g35.2 35 (by decide)]; exact hR4.2.1.2.1
              · rw [g35.2 35 (by decide)]; exact hR4.2.1.2.2
            have hB5 : qB H X5 M5 := qB_up hB4 (f5.2 5 (by decide)) (f5.2 16 (by decide)) (f5.1 25 (by decide) (by decide)) g35 (by decide) (by decide) (by rw [g35.2 35 (by decide)]; exact Int.le_refl _)
            obtain ⟨q2, L3, j1, j2, j3, j4, j5, j6, j7⟩ := look_two hR5.1 hR5.2.1 [] []
            rw [y534] at j4 j5 j6 j7
            rw [y559] at j5 j7
            have f56 : fH 2 [] [6] X5 (rUp X5 2 0 6 q2) := fH_fld fH_refl (by decide)
            have x66 : rUp X5 2 0 6 q2 2 0 6 = q2 := rUp_at
            have g56 : fH 15 [] [35] M5 (rUp M5 15 0 35 q2) := fH_fld fH_refl (by decide)
            have y635 : rUp M5 15 0 35 q2 15 0 35 = q2 := rUp_at
            unfold qTz at E2
            rw [j2] at E2
            simp only [y635] at E2
            rw [j1] at E1
            simp only [x66] at E1
            generalize rUp X5 2 0 6 q2 = X6 at *
            generalize rUp M5 15 0 35 q2 = M6 at *
            have y634 : M6 15 0 34 = m3 15 0 34 := (g56.2 34 (by decide)).trans y534
            have y659 : M6 59 = m3 59 := (g56.1 59 (by decide) (by decide)).trans y559
            rw [y634, y659] at E2
            have at5 := hR5.2.1.2.1
            have hR6 : qR 0 c0 m0 X6 M6 := by
              refine qR_up hR5 (fH_sub f56 (by decide) (by decide)) (fH_sub g56 (by decide) (by decide)) ?_ ?_ ?_ ?_
              · rw [x66, y635]
              · rw [y635]; omega
              · rw [y635]; omega
              · rw [y635, y534]; exact j4
            have hB6 : qB H X6 M6 := qB_up hB5 (f56.2 5 (by decide)) (f56.2 16 (by decide)) (f56.1 25 (by decide) (by decide)) g56 (by decide) (by decide) (by rw [y635]; exact j3)
            by_cases hq2 : q2 < m3 15 0 34 ∧ pCa (m3 59 0 q2) = true
            · have hL3 : 0 ≤ L3 ∧ pCa L3 = true := ⟨j6.2 hq2.1, by rw [qL_ca j5, pB_in hq2.1]; exact hq2.2⟩
              rw [if_pos hL3] at E1
              rw [if_pos (show (0 : Int) ≤ -q2 + m3 15 0 34 + -1 by omega), pB_in hq2.1, if_pos hq2.2] at E2
              rcases var_R hR6 (by rw [y635, y634]; exact hq2.1) (by rw [y659, y635]; exact hq2.2) [] [] with ⟨w_q, c2, v, c3, m_q, r1, r2, r3, r4, r5, r6, r7, r8, r9, r10, r11, r12, r13, r14, r15, r16, r17, r18⟩ | ⟨c2, m_q, r1, r2, r3⟩ | ⟨w_q, c2, m_q, r1, r2, r3, r4, r5, r6, r7⟩
              · rw [r1] at E1
                simp only [r2] at E1
                rw [if_pos (show (1 : Int) ≤ 1 by decide)] at E1
                rw [r6] at E2
                simp only [r12] at E2
                rw [if_pos (show (1 : Int) ≤ 1 by decide)] at E2
                have f7 : fH 2 [10] [] c2 (rUp c2 10 h 15 q2) := fH_grp fH_refl (by decide) (by decide)
                have o7 : ∀ j, j ≠ 15 → rUp c2 10 h 15 q2 10 h j = c2 10 h j := fun j z => rUp_ne (fun y => z y.2.2)
                generalize rUp c2 10 h 15 q2 = X7 at *
                obtain ⟨B3, d1, d2, d3⟩ := meet_both r5 f7 (by decide) (by decide) (by decide)
                rw [d1] at E1
                simp only at E1
                rw [if_pos (show v ≥ 0 from r7)] at E1
                have f8 : fH 2 [10] [] B3 (rUp B3 10 h 14 v) := fH_grp fH_refl (by decide) (by decide)
                have o814 : rUp B3 10 h 14 v 10 h 14 = v := rUp_at
                have o8 : ∀ j, j ≠ 14 → rUp B3 10 h 14 v 10 h j = B3 10 h j := fun j z => rUp_ne (fun y => z y.2.2)
                generalize rUp B3 10 h 14 v = X8 at *
                have f38 : fH 2 [10] [] c3 X8 := fH_trans d2 f8
                have hB3 : qB H c3 m_q := qB_var hB6 r6 hR6.2.1.2.1 (by rw [y635]; omega) r16 hR6.2.2.2.2.1.2.1 r10 r14 r15
                have g50 : fH 15 [] [50] m_q (rUp m_q 15 0 50 v) := fH_fld fH_refl (by decide)
                have hB50 : qB H X8 (rUp m_q 15 0 50 v) := qB_up hB3 (f38.2 5 (by decide)) (f38.2 16 (by decide)) (f38.1 25 (by decide) (by decide)) g50 (by decide) (by decide) (by rw [g50.2 35 (by decide)]; exact Int.le_refl _)
                have c50 : rUp m_q 15 0 50 v 74 0 (rUp m_q 15 0 50 v 15 0 44) = m_q 74 0 (m_q 15 0 44) := by rw [g50.1 74 (by decide) (by decide), g50.2 44 (by decide)]
                have hBo : qB (fun u => H u ∨ (0 : Int) = 0 ∧ v = u) X8 (qOw (rUp m_q 15 0 50 v) q2 v 0) := by
                  obtain ⟨z1, z2, z3, z4, z5⟩ := hB50
                  have fo := qOw_fr (m := rUp m_q 15 0 50 v) (p := q2) (v := v) (t := 0)
                  have co : qOw (rUp m_q 15 0 50 v) q2 v 0 74 0 (qOw (rUp m_q 15 0 50 v) q2 v 0 15 0 44) = rUp m_q 15 0 50 v 74 0 (rUp m_q 15 0 50 v 15 0 44) := by rw [fo.1 74 (by decide) (by decide), fo.2 44 (by decide)]
                  refine ⟨qS_up z1 (fo.2 44 (by decide)) (fo.1 74 (by decide) (by decide)) (fo.1 84 (by decide) (by decide)) (by rw [fo.2 35 (by decide)]; exact Int.le_refl _), qO_kn_q z2 ⟨r7, r8⟩ (by rw [c50]; exact r9) (Or.inl rfl), ?_, z4, ?_⟩
                  · rw [fo.2 45 (by decide)]; exact z3
                  · rw [co]; exact z5
                have fo := qOw_fr (m := rUp m_q 15 0 50 v) (p := q2) (v := v) (t := 0)
                generalize qOw (rUp m_q 15 0 50 v) q2 v 0 = mo at *
                have gF : fH 15 [] [39, 40] mo (rUp (rUp mo 15 0 40 3) 15 0 39 0) := fH_fld (fH_fld fH_refl (by decide)) (by decide)
                have n40 : rUp (rUp mo 15 0 40 3) 15 0 39 0 15 0 40 = 3 := by rw [rUp_ne (by decide), rUp_at]
                generalize rUp (rUp mo 15 0 40 3) 15 0 39 0 = mF at *
                have hBF : qB (fun u => H u ∨ (0 : Int) = 0 ∧ v = u) X8 mF := qB_up hBo rfl rfl rfl gF (by decide) (by decide) (by rw [gF.2 35 (by decide)]; exact Int.le_refl _)
                have gm'F : fH 15 [88, 89, 90, 91] [50, 58, 39, 40] m_q mF := fH_trans (fH_trans (fH_sub g50 (by decide) (by decide)) (fH_sub fo (by decide) (by decide))) (fH_sub gF (by decide) (by decide))
                have gm6F : fH 15 [74, 82, 83, 84, 88, 89, 90, 91] [35, 37, 38, 39, 40, 50, 58] M6 mF := fH_trans (fH_sub r15 (by decide) (by decide)) (fH_sub gm'F (by decide) (by decide))
                have gm36 : fH 15 [] [35, 37, 38, 49] m3 M6 := fH_trans (fH_trans (fH_sub gM3 (by decide) (by decide)) (fH_sub g35 (by decide) (by decide))) (fH_sub g56 (by decide) (by decide))
                have gm3F : fH 15 [74, 82, 83, 84, 88, 89, 90, 91] [35, 37, 38, 39, 40, 49, 50, 58] m3 mF := fH_trans (fH_sub gm36 (by decide) (by decide)) (fH_sub gm6F (by decide) (by decide))
                have fc16 : fH 2 [10, 43, 44, 45, 46] [6, 8, 9] c1 X6 := fH_trans (fH_trans fcX4 (fH_sub f5 (by decide) (by decide))) (fH_sub f56 (by decide) (by decide))
                have fc18 : fH 2 [10, 43, 44, 45, 46, 22, 23] [6, 8, 9, 13] c1 X8 := fH_trans (fH_trans (fH_sub fc16 (by decide) (by decide)) (fH_sub r14 (by decide) (by decide))) (fH_sub f38 (by decide) (by decide))
                have gc : gNc c1 X8 := gNc_fl fc18 (by decide) (by decide)
                have gm : gNm m3 mF := gNm_fl gm3F (by decide) (by decide) (by decide) (by decide) (by decide)
                have chain : ∀ G : Nat, G = 43 ∨ G = 44 ∨ G = 46 → X8 G = X1 G := by
                  intro G z
                  rw [f38.1 G (by simp; omega) (by omega), r14.1 G (by simp; omega) (by omega), f56.1 G (by simp) (by omega), f5.1 G (by simp; omega) (by omega), f14.1 G (by simp) (by omega)]
                have b43 : ∀ k, X8 43 h k = if k = i then 4 else c1 43 h k := fun k => by rw [chain 43 (by omega)]; exact p1_q k
                have ten : ∀ j, j ≠ 13 → j ≠ 12 → j ≠ 14 → j ≠ 15 → X8 10 h j = if j = 5 then i + 1 else c1 10 h j := by
                  intro j z1 z2 z3 z4
                  rw [o8 j z3, d3.1 10 (by decide) (by decide), o7 j z4, r4.1 10 (by decide) (by decide), f56.1 10 (by decide) (by decide), x5o j z2]
                  exact cell j z1
                have t12 : X8 10 h 12 = qTy w := by
                  rw [o8 12 (by decide), d3.1 10 (by decide) (by decide), o7 12 (by decide), r4.1 10 (by decide) (by decide), f56.1 10 (by decide) (by decide)]
                  exact x512
                have cntF : mF 74 0 (mF 15 0 44) = m_q 74 0 (m_q 15 0 44) := by rw [gm'F.1 74 (by decide) (by decide), gm'F.2 44 (by decide)]
                have cnt6 : M6 74 0 (M6 15 0 44) = m3 74 0 (m3 15 0 44) := by rw [gm36.1 74 (by decide) (by decide), gm36.2 44 (by decide)]
                have hadd := qHs_add (H_q := fun u => H u ∨ (0 : Int) = 0 ∧ v = u) (c_q := X8) (mF := mF) (kd := 3) (v := mF 15 0 39) ⟨s1, s2, s3, s4, s5, s6, s7, s8, s9, s10⟩ hi hBF (by rw [ten 4 (by decide) (by decide) (by decide) (by decide), if_neg (by decide)]; exact s2) (by rw [ten 5 (by decide) (by decide) (by decide) (by decide), if_pos rfl]) (by rw [t12, gm6F.2 49 (by decide), g56.2 49 (by decide), n49]) (by rw [t12]; exact tr)
                  (fun k hk => ⟨by rw [b43, if_neg hk], by rw [chain 44 (by omega)]; exact p2_q k hk, by rw [chain 46 (by omega)]; exact p3_q k hk⟩) gc gm (gm3F.1 85 (by decide) (by decide)) (gm3F.1 87 (by decide) (by decide)) (by rw [cntF]; rw [cnt6] at r10; rcases r10 with z | z <;> omega)
                  (Or.inr (Or.inr ⟨by rw [b43, if_pos rfl], rfl⟩)) (fun u => by
                    rw [t12, o814]
                    constructor
                    · rintro (z | z)
                      · have := ((s8 u).1 z).1
                        omega
                      · exact ⟨by omega, z.2⟩
                    · rintro ⟨z1, z2⟩
                      exact Or.inr ⟨rfl, z2⟩) (Or.inl ⟨by rw [b43, if_pos rfl], by rw [t12]; omega⟩) (Or.inr ⟨ht, by rw [o8 13 (by decide), d3.1 10 (by decide) (by decide), o7 13 (by decide), r4.1 10 (by decide) (by decide), f56.1 10 (by decide) (by decide), x5o 13 (by decide), f14.1 10 (by decide) (by decide)]; exact p5_q, by rw [chain 46 (by omega)]; exact p6_q, fun _ => by rw [o814, gF.2 50 (by decide), fo.2 50 (by decide), rUp_at]; exact ⟨rfl, r7, r8⟩⟩)
                have fF : fH 15 [85, 87] [48] mF (rUp (rUp (rUp mF 85 0 i 3) 87 0 i (mF 15 0 39)) 15 0 48 (i + 1)) := fH_fld (fH_grp (fH_grp fH_refl (by decide) (by decide)) (by decide) (by decide)) (by decide)
                refine Or.inl ⟨_, X8, rUp (rUp (rUp mF 85 0 i 3) 87 0 i (mF 15 0 39)) 15 0 48 (i + 1), E1, ?_, ?_, hadd, ?_, ?_, ?_, ?_, by rw [ten 6 (by decide) (by decide) (by decide) (by decide), if_neg (by decide), fc.1 10 (by decide) (by decide)], fun k hk => by rw [chain 46 (by omega), p3_q k hk, fc.1 46 (by decide) (by decide)]⟩
                · unfold qHb
                  rw [E2]
                  simp only [n40]
                  exact if_pos (show (1 : Int) ≤ 1 by decide)
                · have fG : fH 15 [85, 87, 88, 89, 90, 91] [39, 40, 48, 50, 58] m_q (rUp (rUp (rUp mF 85 0 i 3) 87 0 i (mF 15 0 39)) 15 0 48 (i + 1)) := fH_trans (fH_sub gm'F (by decide) (by decide)) (fH_sub fF (by decide) (by decide))
                  refine qR_up r11 (fH_sub f38 (by decide) (by decide)) (fH_sub fG (by decide) (by decide)) ?_ ?_ ?_ ?_
                  · rw [f38.2 6 (by decide), fG.2 35 (by decide)]; exact r11.2.1.1
                  · rw [fG.2 35 (by decide)]; omega
                  · rw [fG.2 35 (by decide)]; exact r11.2.1.2.1
                  · rw [fG.2 35 (by decide)]; exact r11.2.1.2.2
                · exact fH_trans (fH_sub fc (by decide) (by decide)) (fH_sub fc18 (by decide) (by decide))
                · exact fH_trans (fH_trans (fH_sub fm (by decide) (by decide)) (fH_sub gm3F (by decide) (by decide))) (fH_sub fF (by decide) (by decide))
                · exact gNc_trans (gNc_fl fc (by decide) (by decide)) gc
                · exact gNm_trans (gNm_trans (gNm_fl fm (by decide) (by decide) (by decide) (by decide) (by decide)) gm) (gNm_fl fF (by decide) (by decide) (by decide) (by decide) (by decide))
              · rw [r1] at E1
                rw [r2] at E2
                rw [if_neg (show ¬ (1 : Int) ≤ 0 by decide)] at E1 E2
                exact bad _ _ E1 E2 r3
              · rw [r1] at E1
                simp only [r2] at E1
                rw [if_pos (show (1 : Int) ≤ 1 by decide)] at E1
                rw [r6] at E2
                rw [if_neg (show ¬ (1 : Int) ≤ 0 by decide)] at E2
                obtain ⟨B3, d1, d2, d3⟩ := meet_both (L := [10]) (J := []) r5 (B := rUp c2 10 h 15 q2) (fH_grp fH_refl (by decide) (by decide)) (by decide) (by decide) (by decide)
                rw [d1] at E1
                simp only at E1
                rw [if_neg (show ¬ (-1 : Int) ≥ 0 by decide)] at E1
                exact bad _ _ E1 E2 (qZ_more r7 (fH_fld (fH_grp (fH_sub d2 (by decide) (by decide)) (by decide) (by decide)) (by decide)) fH_refl)
            · have hL3 : ¬ (0 ≤ L3 ∧ pCa L3 = true) := fun z => hq2 ⟨j6.1 z.1, by
                have z2 := z.2
                rw [qL_ca j5, pB_in (j6.1 z.1)] at z2
                exact z2⟩
              rw [if_neg hL3] at E1
              have f8 : (fn8 [q2] M6).2.2 = rUp M6 15 0 36 q2 := fn8_ge (by rw [y634]; exact j4)
              have E3 : fn26 [] m3 = (0, 0, rUp M6 15 0 36 q2) := by
                rw [E2, f8]
                by_cases b1 : q2 < m3 15 0 34
                · rw [if_pos (show (0 : Int) ≤ -q2 + m3 15 0 34 + -1 by omega), pB_in b1, if_neg (fun z => hq2 ⟨b1, z⟩)]
                · rw [if_neg (show ¬ (0 : Int) ≤ -q2 + m3 15 0 34 + -1 by omega)]
              exact bad _ _ E1 E3 (qZ_up hR6 (by decide) (fH_fld fH_refl (by decide)) (fH_fld fH_refl (by decide)))
      · rw [y235] at w1 w2
        rw [w2] at h23
        rw [if_neg (show ¬ (1 : Int) ≤ 0 by decide)] at h23
        rw [w1] at E1
        rw [if_neg (show ¬ (1 : Int) ≤ 0 by decide)] at E1
        exact bad _ _ E1 (E2b _ h23) (qZ_up hR3 (by decide) (fH_fld (fH_fld (fH_fld (fH_fld fH_refl (by decide)) (by decide)) (by decide)) (by decide)) (fH_fld (fH_fld (fH_fld fH_refl (by decide)) (by decide)) (by decide)))
    · rw [if_neg hq] at h23
      have hL2 : ¬ (0 ≤ L2 ∧ pSm L2 = true) := fun z => hq ⟨l6.1 z.1, by
        have z2 := z.2
        rw [qL_sm l5, pB_in (l6.1 z.1)] at z2
        exact z2⟩
      rw [if_neg hL2] at E1
      exact bad _ _ E1 (E2b _ h23) (qZ_up hR3 (by decide) (fH_fld fH_refl (by decide)) (fH_fld fH_refl (by decide)))
  · refine bad _ _ ?_ (fn26_two (by have := s6.1; omega)) (qZ_up hR (by decide) (c_q := rUp c1 2 0 4 (m3 15 0 35)) (fH_fld fH_refl (by decide)) (fH_sub fn8_fr (by decide) (by decide)))
    unfold fn140
    simp only [zLet, a6, ← hh, fn109_eq]
    rw [if_neg ht]
