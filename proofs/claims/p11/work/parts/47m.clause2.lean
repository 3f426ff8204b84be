/-! ===== a RULE behind its HEAD; a CLAUSE ===== -/
theorem qK_rule {N0 : Int} {cS mS c m : rHp} (hK : qK N0 c m) (hG : qKg cS mS c m) (h60 : c 1 0 10 < 60) (h33 : m 15 0 33 = mS 15 0 33) : qK N0 (rUp c 1 0 10 (c 1 0 10 + 1)) (rUp m 15 0 33 (mS 15 0 33 + 1)) ∧ qKg cS mS (rUp c 1 0 10 (c 1 0 10 + 1)) (rUp m 15 0 33 (mS 15 0 33 + 1)) := by
  have fc : fH 2 [1] [] c (rUp c 1 0 10 (c 1 0 10 + 1)) := fH_grp fH_refl (by decide) (by decide)
  have fm : fH 15 [] [33] m (rUp m 15 0 33 (mS 15 0 33 + 1)) := fH_fld fH_refl (by decide)
  have x10 : rUp c 1 0 10 (c 1 0 10 + 1) 1 0 10 = c 1 0 10 + 1 := rUp_at
  have xj : ∀ j, j ≠ 10 → rUp c 1 0 10 (c 1 0 10 + 1) 1 0 j = c 1 0 j := fun j z => rUp_ne (fun y => z y.2.2)
  have y33 : rUp m 15 0 33 (mS 15 0 33 + 1) 15 0 33 = mS 15 0 33 + 1 := rUp_at
  generalize rUp c 1 0 10 (c 1 0 10 + 1) = c_q at *
  generalize rUp m 15 0 33 (mS 15 0 33 + 1) = m_q at *
  obtain ⟨b1, b2, b3, b4, b5, b6, b7, b8, b9, b10⟩ := hK
  obtain ⟨d1, d2, d3, d4, d5, d6, d7, d8, d9, d10⟩ := hG
  have gc := gNc_fl fc (by decide) (by decide)
  have gm := gNm_fl fm (by decide) (by decide) (by decide) (by decide) (by decide)
  refine ⟨⟨qT_up b1 (fc.2 3 (by decide)) (fc.1 21 (by decide) (by decide)) (fm.2 34 (by decide)) (fm.1 59 (by decide) (by decide)), ⟨?_, ?_, ?_⟩, ?_, ?_, qP_up b5 (xj 7 (by decide)) (fc.1 16 (by decide) (by decide)) (fc.1 17 (by decide) (by decide)) (fm.2 14 (by decide)) (fm.1 64 (by decide) (by decide)) (fm.1 65 (by decide) (by decide)) (fm.1 66 (by decide) (by decide)), ?_, ⟨b7.1, ?_, ?_⟩, ⟨?_, ?_, ?_⟩, ?_, ?_⟩, gNc_trans d1 gc, gNm_trans d2 gm, fH_trans d3 (fH_sub fc (by decide) (by decide)), fun j q1 q2 q3 => by rw [xj j q3]; exact d4 j q1 q2 q3, fH_trans d5 (fH_sub fm (by decide) (by decide)), by rw [fm.2 14 (by decide)]; exact d6, fun f q => by rw [fm.1 67 (by decide) (by decide)]; exact d7 f q, by rw [fm.2 18 (by decide)]; exact d8, by rw [y33]; omega, by rw [fm.2 35 (by decide)]; exact d10⟩
  · rw [fc.2 6 (by decide), fm.2 35 (by decide)]; exact b2.1
  · rw [fm.2 35 (by decide)]; exact b2.2.1
  · rw [fm.2 35 (by decide), fm.2 34 (by decide)]; exact b2.2.2
  · unfold qNc
    rw [fc.1 3 (by decide) (by decide), fc.1 26 (by decide) (by decide)]; exact b3
  · unfold qNm
    rw [fm.2 8 (by decide), fm.2 9 (by decide), fm.1 61 (by decide) (by decide), fm.1 62 (by decide) (by decide), fm.1 63 (by decide) (by decide)]; exact b4
  · rw [fc.2 7 (by decide)]; exact b6
  · rw [fm.2 34 (by decide)]; exact b7.2.1
  · rw [fc.1 3 (by decide) (by decide), fm.2 35 (by decide)]; exact b7.2.2
  · rw [x10, y33, fm.2 32 (by decide)]; omega
  · rw [x10]; omega
  · rw [x10]; omega
  · rw [xj 9 (by decide), fm.2 17 (by decide), fm.2 18 (by decide)]; exact b9
  · rw [xj 9 (by decide)]
    exact FR_grow b10 gc gm (fc.1 19 (by decide) (by decide)) (fc.1 20 (by decide) (by decide)) (fm.1 67 (by decide) (by decide)) (fm.1 68 (by decide) (by decide)) (by rw [fm.2 14 (by decide)]; exact Int.le_refl _) (fun p _ => by rw [fm.1 66 (by decide) (by decide)])
/-- a RULE is made: its GOALS are read, its HEAD is kept with it -/
theorem rule_made {E : Prop} {H : Int → Prop} {r R i P : Int} {c3 m4 c_q m_q M m5 : rHp} (qw : qFw E H R r c3 m4 c_q m_q) (k45 : m4 15 0 45 = 0) (fM : fH 15 [] [35] m_q M) (l1 : fH 15 [75, 80] [] M m5)
    (l2 : ∀ g j, 8 * r ≤ g → g < M 73 0 r + 8 * r → 0 ≤ j → j < 4 → (lo M M g j → m5 80 0 (4 * g + j) = 2) ∧ (¬ lo M M g j → m5 80 0 (4 * g + j) = M 80 0 (4 * g + j)))
    (hd : qHd H c3 (9 * R)) (h5 : c3 10 (9 * R) 5 = i) (i4 : 0 ≤ i ∧ i ≤ 4) (h8 : c3 10 (9 * R) 8 = P) (p69 : m_q 69 0 r = P) (pP : 0 ≤ P ∧ P < m_q 15 0 14 ∧ m_q 66 0 P = i) (p71 : m_q 71 0 r = c3 10 (9 * R) 12) (t4 : 0 ≤ c3 10 (9 * R) 12 ∧ c3 10 (9 * R) 12 ≤ 4) (t1 : (∃ k, 0 ≤ k ∧ k < i ∧ c3 43 (9 * R) k = 4) ↔ 1 ≤ c3 10 (9 * R) 12) (t2 : 2 ≤ c3 10 (9 * R) 12 → c3 10 (9 * R) 14 = m_q 72 0 r ∧ qVr (m_q 72 0 r)) (t3 : ∀ k, 0 ≤ k → k < i → c3 43 (9 * R) k = 4 → c3 46 (9 * R) k = 0 ∧ k = c3 10 (9 * R) 13)
    (ha : ∀ k, 0 ≤ k → k < i → (c3 43 (9 * R) k = 0 ∧ m_q 70 0 (k + 4 * r) = 0 ∧ vE E (c3 46 (9 * R) k) (m_q 76 0 (k + 4 * r))) ∨ (c3 43 (9 * R) k = 1 ∧ m_q 70 0 (k + 4 * r) = 1 ∧ c3 44 (9 * R) k = m_q 76 0 (k + 4 * r) ∧ qVr (c3 44 (9 * R) k)) ∨ (c3 43 (9 * R) k = 4 ∧ m_q 70 0 (k + 4 * r) = 3)) : gR2 E r R c_q m5 := by
  obtain ⟨w1, w2, w3, w4, n, n0, n8, w5, w6, kb, b1, b2, b3, b4, b5⟩ := qw
  have fm5 : fH 15 [75, 80] [35] m_q m5 := fH_trans (fH_sub fM (by decide) (by decide)) (fH_sub l1 (by decide) (by decide))
  have M73 : M 73 0 r = n := by rw [fM.1 73 (by decide) (by decide)]; exact w6
  have e77 : isA r m5 = isA r m_q := by unfold isA; rw [fm5.1 77 (by decide) (by decide)]
  refine ⟨n, kb, w5, by rw [fm5.1 73 (by decide) (by decide)]; exact w6, ⟨n0, n8⟩, fun v hv => by rw [b1, k45, qBt_zero hv]; decide, b3, ⟨fun g g0 g1 => ?_, by rw [e77]; exact b5⟩, ?_⟩
  · obtain ⟨d1, d2⟩ := b4 g g0 g1
    have dM : gGo E (kb g) (kb (g + 1)) (9 * R + (g + 1)) (g + 8 * r) c_q M := gGo_to d1 (fun _ _ => rfl) (fun _ _ => rfl) (fun K z => by rw [fM.1 K (by simp) (by omega)]) (fun K j z _ _ => by rw [fM.1 K (by simp) (by omega)]) (by rw [fM.2 14 (by decide)]; exact Int.le_refl _) (fun p _ => by rw [fM.1 66 (by decide) (by decide)])
    obtain ⟨d3, d4⟩ := gGo_lo dM (b3 g g0 (by omega)) l1 (fun j j0 j1 => l2 (g + 8 * r) j (by omega) (by omega) j0 j1)
    refine ⟨d3, d4, fun z => ?_⟩
    rw [fm5.1 77 (by decide) (by decide)] at z
    rw [e77]
    exact d2 z
  · unfold gH2
    rw [w3 10 (by decide), w3 43 (by decide), w3 44 (by decide), w3 46 (by decide), fm5.1 69 (by decide) (by decide), fm5.1 70 (by decide) (by decide), fm5.1 71 (by decide) (by decide), fm5.1 72 (by decide) (by decide), fm5.1 76 (by decide) (by decide), fm5.1 66 (by decide) (by decide), fm5.2 14 (by decide), p69, p71, h5, b2]
    refine ⟨h8, ⟨pP.1, pP.2.1⟩, pP.2.2.symm, i4, rfl, t4, fun k k0 k1 => ?_, fun z => ?_, fun z => t1.2 z⟩
    · rcases ha k k0 k1 with a | ⟨a1, a2, a3, a4⟩ | ⟨a1, a2⟩
      · exact Or.inl a
      · refine Or.inr (Or.inl ⟨a1, a2, a3, by rw [← a3]; exact a4, ?_⟩)
        rw [← a3]
        exact w4 _ ((hd _).2 ⟨k, k0, by omega, Or.inl ⟨a1, rfl⟩⟩)
      · obtain ⟨y1, y2⟩ := t3 k k0 k1 a1
        exact Or.inr (Or.inr ⟨a1, a2, y1, y2⟩)
    · obtain ⟨y1, y2⟩ := t2 z
      refine ⟨y1, y2, ?_⟩
      obtain ⟨k, k0, k1, k2⟩ := t1.2 (by omega)
      rw [← y1]
      exact w4 _ ((hd _).2 ⟨k, k0, by omega, Or.inr ⟨k2, by omega, rfl⟩⟩)
/-- the RULE's first cells -/
theorem fE_69 {r P a b x : Int} {m : rHp} : fE r m (rUp (rUp (rUp (rUp m 15 0 35 x) 69 0 r P) 71 0 r a) 72 0 r b) := by
  refine ⟨fun K y z1 z2 => ?_, fun K y z1 z2 => ?_, fun K y z1 z2 => ?_, fun K y z1 z2 => ?_, ?_, fun p _ => ?_⟩
  · rw [rUp_ne (fun w => by have := w.2.2; omega), rUp_ne (fun w => by have := w.2.2; omega), rUp_ne (fun w => by have := w.2.2; omega), rUp_grp (by omega)]
  · rw [rUp_grp (by omega), rUp_grp (by omega), rUp_grp (by omega), rUp_grp (by omega)]
  · rw [rUp_grp (by omega), rUp_grp (by omega), rUp_grp (by omega), rUp_grp (by omega)]
  · rw [rUp_grp (by omega), rUp_grp (by omega), rUp_grp (by omega), rUp_grp (by omega)]
  · rw [rUp_grp (by decide), rUp_grp (by decide), rUp_grp (by decide), rUp_ne (by decide)]; exact Int.le_refl _
  · rw [rUp_grp (by decide), rUp_grp (by decide), rUp_grp (by decide), rUp_grp (by decide)]
theorem rest_rule {N0 h i P : Int} {H : Int → Prop} {cS mS c0 m1 c m g1 : rHp} (hK : qK N0 cS mS) (hs : qRs cS mS c0 m1 h i P H c m g1) (hat : c0 1000 0 1 = mS 15 0 35) (hN : c0 1000 0 0 = N0) (fc0 : fH 2 [9, 1000] [5, 13, 16] cS c0) (fm : fH 15 [73, 74] [44, 45, 58] mS m1)
    (hsk : pSk (m 59 0) (m 15 0 34) (m 15 0 35) = m 15 0 35) :
    qCo N0 cS mS (if 1 ≤ (fn151 [h] c).2.1 then (if 1 ≤ (fn158 [] (fn151 [h] c).2.2).2.1 then (0, 1, (fn160 [] (fn158 [] (fn151 [h] c).2.2).2.2).2.2) else (0, 0, (fn158 [] (fn151 [h] c).2.2).2.2)) else (0, 0, (fn151 [h] c).2.2))
      (zGoo (en49 mS) (if m 15 0 35 < m 15 0 34 ∧ m 59 0 (m 15 0 35) = 58 then
        (if 0 ≤ -m 15 0 35 + mS 15 0 34 + (-2) then
          (if pB (m 59 0) (m 15 0 34) (m 15 0 35 + 1) = 45 then
            (if mS 15 0 33 + mS 15 0 32 ≠ 60 then .inl (1, [0, g1 15 0 46, P], rUp (rUp (rUp (rUp m 15 0 35 (m 15 0 35 + 2)) 69 0 (g1 15 0 44) P) 71 0 (g1 15 0 44) (g1 15 0 49)) 72 0 (g1 15 0 44) (g1 15 0 50))
            else .inr (0, 0, (fn8 [g1 15 0 46] (rUp m 15 0 35 (m 15 0 35 + 2))).2.2))
          else .inr (0, 0, (fn8 [m 15 0 35 + 1] m).2.2))
        else .inr (0, 0, (fn8 [m 15 0 35 + 1] m).2.2))
      else .inr (0, 0, (fn8 [m 15 0 35] m).2.2))) := by
  obtain ⟨hR, hB, hd, ht, ⟨i0, i4⟩, z46, hP, ⟨P0, P1, P2⟩, h7, h16, h73, hh, g48, g87, ⟨hy1, hy2, hy3, hy4⟩, ⟨w44, w44_q, w45⟩, hD, hE, hne⟩ := hs
  obtain ⟨L, k1, k2, k3, k4⟩ := look_at hR.1 hR.2.1 hsk [] []
  have a0 := hR.2.1.2.1
  have at1 := hR.2.1.2.2
  have x6 : c 2 0 6 = m 15 0 35 := hR.2.1.1
  have hF := hK.2.2.2.2.2.2.2.2.2
  have e34 : m 15 0 34 = mS 15 0 34 := (hR.2.2.2.2.2.2.2.1.2 34 (by decide)).trans (fm.2 34 (by decide))
  have l3 : c 2 0 3 = m 15 0 34 := hR.1.1
  have c10 : c 1 0 10 = cS 1 0 10 := by rw [hR.2.2.2.2.2.2.1 10 (by decide), fc0.1 1 (by decide) (by decide)]
  have bad : ∀ c_q m_q, fH 2 [] [4, 6] c c_q → fH 15 [] [35, 36] m m_q → qKb N0 cS mS c_q m_q ∧ qCg cS mS c_q m_q := fun c_q m_q q1 q2 => bad_all (qZ_up hR (by decide) (fH_sub q1 (by decide) (by decide)) (fH_sub q2 (by decide) (by decide))) hN hF fc0 fm (fD_tr hD (fD_H q1 (by decide))) (fE_tr hE (fE_H q2 (by decide) (by decide)))
  have eR : cS 40 0 (cS 1 0 10) = c 40 0 (c 1 0 10) := by rw [hD.1, c10]
  obtain ⟨r, hr⟩ : ∃ r, mS 15 0 33 + mS 15 0 32 = r := ⟨_, rfl⟩
  have hE_q : fE r mS m := by rw [← hr]; exact hE
  rw [hr] at w44_q
  by_cases h58 : m 15 0 35 < m 15 0 34 ∧ m 59 0 (m 15 0 35) = 58
  · have hL : 0 ≤ L := k4.2 h58.1
    have hL58 : L = 58 := by rw [qL_is k3 (by decide) (by decide), pB_in h58.1]; exact h58.2
    rw [if_pos h58]
    by_cases hlen : m 15 0 35 + 1 < m 15 0 34
    · rw [if_pos (show (0 : Int) ≤ -m 15 0 35 + mS 15 0 34 + -2 by omega), pB_in hlen]
      have tb : c 21 0 (m 15 0 35 + 1) = m 59 0 (m 15 0 35 + 1) := (hR.1.2.2 (m 15 0 35 + 1) (by omega) hlen).1
      by_cases h45 : m 59 0 (m 15 0 35 + 1) = 45
      · rw [if_pos h45]
        have k8 := hK.2.2.2.2.2.2.2.1
        by_cases h60 : cS 1 0 10 < 60
        · rw [if_pos (show mS 15 0 33 + mS 15 0 32 ≠ 60 by omega)]
          have E151 : fn151 [h] c = (0, 1, rUp (rUp c 2 0 6 (m 15 0 35 + 1)) 2 0 6 (m 15 0 35 + 2)) := by
            unfold fn151
            simp only [zLet, List.getD_cons_zero, k1, x6, l3, tb]
            rw [if_pos hL, if_pos hL58, if_neg (show ¬ m 15 0 35 + 1 ≥ m 15 0 34 by omega), if_pos h45, if_pos (by rw [c10]; exact h60)]
          rw [E151]
          simp only
          rw [if_pos (show (1 : Int) ≤ 1 by decide)]
          have f3 : fH 2 [] [6] c (rUp (rUp c 2 0 6 (m 15 0 35 + 1)) 2 0 6 (m 15 0 35 + 2)) := fH_fld (fH_fld fH_refl (by decide)) (by decide)
          have t6 : rUp (rUp c 2 0 6 (m 15 0 35 + 1)) 2 0 6 (m 15 0 35 + 2) 2 0 6 = m 15 0 35 + 2 := rUp_at
          have fm3 : fH 15 [69, 71, 72] [35] m (rUp (rUp (rUp (rUp m 15 0 35 (m 15 0 35 + 2)) 69 0 (g1 15 0 44) P) 71 0 (g1 15 0 44) (g1 15 0 49)) 72 0 (g1 15 0 44) (g1 15 0 50)) := fH_grp (fH_grp (fH_grp (fH_fld fH_refl (by decide)) (by decide) (by decide)) (by decide) (by decide)) (by decide) (by decide)
          have u35 : rUp (rUp (rUp (rUp m 15 0 35 (m 15 0 35 + 2)) 69 0 (g1 15 0 44) P) 71 0 (g1 15 0 44) (g1 15 0 49)) 72 0 (g1 15 0 44) (g1 15 0 50) 15 0 35 = m 15 0 35 + 2 := by rw [rUp_grp (by decide), rUp_grp (by decide), rUp_grp (by decide), rUp_at]
          have E3 : fE r m (rUp (rUp (rUp (rUp m 15 0 35 (m 15 0 35 + 2)) 69 0 (g1 15 0 44) P) 71 0 (g1 15 0 44) (g1 15 0 49)) 72 0 (g1 15 0 44) (g1 15 0 50)) := by rw [w44, w44_q]; exact fE_69
          have v69 : rUp (rUp (rUp (rUp m 15 0 35 (m 15 0 35 + 2)) 69 0 (g1 15 0 44) P) 71 0 (g1 15 0 44) (g1 15 0 49)) 72 0 (g1 15 0 44) (g1 15 0 50) 69 0 r = P := by rw [w44, w44_q, rUp_grp (by decide), rUp_grp (by decide), rUp_at]
          have v71 : rUp (rUp (rUp (rUp m 15 0 35 (m 15 0 35 + 2)) 69 0 (g1 15 0 44) P) 71 0 (g1 15 0 44) (g1 15 0 49)) 72 0 (g1 15 0 44) (g1 15 0 50) 71 0 r = g1 15 0 49 := by rw [w44, w44_q, rUp_grp (by decide), rUp_at]
          have v72 : rUp (rUp (rUp (rUp m 15 0 35 (m 15 0 35 + 2)) 69 0 (g1 15 0 44) P) 71 0 (g1 15 0 44) (g1 15 0 49)) 72 0 (g1 15 0 44) (g1 15 0 50) 72 0 r = g1 15 0 50 := by rw [w44, w44_q, rUp_at]
          generalize rUp (rUp c 2 0 6 (m 15 0 35 + 1)) 2 0 6 (m 15 0 35 + 2) = c3 at *
          generalize rUp (rUp (rUp (rUp m 15 0 35 (m 15 0 35 + 2)) 69 0 (g1 15 0 44) P) 71 0 (g1 15 0 44) (g1 15 0 49)) 72 0 (g1 15 0 44) (g1 15 0 50) = m3 at *
          have w48 : m3 15 0 48 = i := (fm3.2 48 (by decide)).trans ht.2.1
          obtain ⟨m4, lp, f4, f4o, f4n⟩ := hcopy_loop (mS := mS) (a := g1 15 0 46) (b := P) (i := i) i.toNat 0 m3 (by omega) w48
          have fm4 : fH 15 [69, 70, 71, 72, 76] [35] m m4 := fH_trans (fH_sub fm3 (by decide) (by decide)) (fH_sub f4 (by decide) (by decide))
          have q44 : m4 15 0 44 = r := by rw [fm4.2 44 (by decide)]; exact w44_q
          have r44 : m3 15 0 44 = r := by rw [fm3.2 44 (by decide)]; exact w44_q
          rw [r44] at f4o f4n
          have E4 : fE r m m4 := fE_tr E3 ⟨fun K x z1 _ => by rw [f4.1 K (by rcases z1 with rfl | rfl | rfl | rfl | rfl <;> decide) (by omega)], fun K x z1 z2 => f4o K x z1 (by omega), fun K x z1 _ => by rw [f4.1 K (by rcases z1 with rfl | rfl | rfl <;> decide) (by omega)], fun K x z1 _ => by rw [f4.1 K (by rcases z1 with rfl | rfl <;> decide) (by omega)], by rw [f4.2 14 (by decide)]; exact Int.le_refl _, fun p _ => by rw [f4.1 66 (by decide) (by decide)]⟩
          have v35 : m4 15 0 35 = m 15 0 35 + 2 := (f4.2 35 (by decide)).trans u35
          have v34 : m4 15 0 34 = mS 15 0 34 := (fm4.2 34 (by decide)).trans e34
          have hR4 : qR 0 c0 m1 c3 m4 := by
            refine qR_up hR (fH_sub f3 (by decide) (by decide)) (fH_sub fm4 (by decide) (by decide)) ?_ ?_ ?_ ?_
            · rw [t6, v35]
            · rw [v35]; omega
            · rw [v35]; omega
            · rw [v35]; omega
          have hB4 : qB H c3 m4 := qB_up hB (f3.2 5 (by decide)) (f3.2 16 (by decide)) (f3.1 25 (by decide) (by decide)) fm4 (by decide) (by decide) (by rw [v35]; omega)
          have hn1 : c3 40 0 (c3 1 0 10) = c 40 0 (c 1 0 10) := by rw [f3.1 40 (by decide) (by decide), f3.1 1 (by decide) (by decide)]
          have hd4 : qHd H c3 (9 * c 40 0 (c 1 0 10)) := by
            rw [← hh]
            exact qHd_up hd (by rw [f3.1 10 (by decide) (by decide)]) (by rw [f3.1 43 (by decide) (by decide)]) (by rw [f3.1 44 (by decide) (by decide)])
          have hN_q : rUp c0 1000 0 1 (m4 15 0 35) 1000 0 0 = N0 := by rw [rUp_ne (by decide)]; exact hN
          have fc0_q : fH 2 [9, 1000] [5, 13, 16] cS (rUp c0 1000 0 1 (m4 15 0 35)) := fH_grp fc0 (by decide) (by decide)
          have hR4_q : qR 0 (rUp c0 1000 0 1 (m4 15 0 35)) m1 c3 m4 := by
            obtain ⟨w1, w2, w3, w4, w5, w6, w7, w8, w9, w10⟩ := hR4
            have k3 : rUp c0 1000 0 1 (m4 15 0 35) 3 = c0 3 := rUp_grp (by decide)
            have k26 : rUp c0 1000 0 1 (m4 15 0 35) 26 = c0 26 := rUp_grp (by decide)
            refine ⟨w1, w2, ⟨w3.1, w3.2.1, ?_, w3.2.2.2⟩, w4, w5, fH_trans (fH_symm (fH_grp fH_refl (by decide) (by decide))) w6, fun j hj => by rw [rUp_grp (by decide)]; exact w7 j hj, w8, w9, ?_⟩
            · unfold gNc
              rw [k3, k26]
              exact w3.2.2.1
            · rw [rUp_at, rUp_ne (show ¬ ((1000 : Nat) = 1000 ∧ (0 : Int) = 0 ∧ (0 : Int) = 1) by decide)]
              exact ⟨w10.1, by omega, by
                have z := w10.2.2
                unfold pU at z ⊢
                rw [rUp_grp (by decide), rUp_grp (by decide), rUp_grp (by decide), rUp_grp (by decide)]
                exact z⟩
          have gt := goals_two hR4_q hB4 (by rw [hN_q]; exact hK.2.2.2.2.2.2.1.1) (by rw [hN_q, fm.2 34 (by decide)]; exact hK.2.2.2.2.2.2.1.2.1) hn1 (by rw [f3.2 16 (by decide)]; exact h16) (by rw [fm4.1 73 (by decide) (by decide), fm4.2 44 (by decide)]; exact h73) (by rw [f3.2 7 (by decide)]; exact h7) hd4 hne
          rw [v34, q44] at gt
          show qCo N0 cS mS _ (zLoop (en49 mS) (1, [0, g1 15 0 46, P], m3))
          rw [lp]
          have w48_q : m4 15 0 48 = i := (f4.2 48 (by decide)).trans w48
          rcases gt with ⟨c_q, m_q, y1, y2, y3, y4, y5, y6⟩ | ⟨c_q, m_q, y1, y2, y3, yD, yE⟩
          · rw [y1, zLoop_inr ((en49_goals w48_q y2).1 rfl)]
            simp only
            rw [if_pos (show (1 : Int) ≤ 1 by decide)]
            have fM : fH 15 [] [35] m_q (rUp m_q 15 0 35 (m_q 15 0 35 + 1)) := fH_fld fH_refl (by decide)
            have M44 : rUp m_q 15 0 35 (m_q 15 0 35 + 1) 15 0 44 = r := by rw [fM.2 44 (by decide), y5.2 44 (by decide)]; exact q44
            obtain ⟨m5, e44, f44, f75, f80, f81⟩ := fn44_lo (rUp m_q 15 0 35 (m_q 15 0 35 + 1))
            rw [M44] at f75 f80 f81
            rw [e44]
            simp only
            have hR5 : qR 0 (rUp c0 1000 0 1 (m4 15 0 35)) m1 c_q m5 := by
              refine qR_up y3 fH_refl (fH_sub f44 (by decide) (by decide)) ?_ ?_ ?_ ?_
              · rw [f44.2 35 (by decide)]; exact y3.2.1.1
              · rw [f44.2 35 (by decide)]; exact Int.le_refl _
              · rw [f44.2 35 (by decide)]; exact y3.2.1.2.1
              · rw [f44.2 35 (by decide)]; exact y3.2.1.2.2
            obtain ⟨q1, q2⟩ := qK_of hK hR5 hN_q fc0_q fm (by rw [y4.2 7 (by decide), f3.2 7 (by decide)]; exact h7) (by
              have z1 := hR5.2.2.2.2.2.2.2.2.2.2.1
              rw [rUp_at] at z1
              have z2 := hR.2.2.2.2.2.2.2.2.2.2.1
              omega)
            have c10_q : c_q 1 0 10 = cS 1 0 10 := by rw [hR5.2.2.2.2.2.2.1 10 (by decide), fc0_q.1 1 (by decide) (by decide)]
            have h33 : m5 15 0 33 = mS 15 0 33 := (hR5.2.2.2.2.2.2.2.1.2 33 (by decide)).trans (fm.2 33 (by decide))
            obtain ⟨r1, r2⟩ := qK_rule q1 q2 (by rw [c10_q]; exact h60) h33
            have E160 : fn160 [] c_q = (0, 1, rUp c_q 1 0 10 (c_q 1 0 10 + 1)) := by
              unfold fn160
              simp only [zLet]
              rw [if_pos (by rw [c10_q]; exact h60)]
            rw [E160]
            have ht4 : qHt c3 m4 h i := qHt_up ht f3 (by decide) (by rw [f3.1 10 (by decide) (by decide)]) fm4 (by decide) (by decide)
            have g4 : ∀ K : Nat, K = 69 ∨ K = 70 ∨ K = 71 ∨ K = 72 ∨ K = 76 → m_q K = m4 K := fun K z => y5.1 K (by rcases z with rfl | rfl | rfl | rfl | rfl <;> decide) (by omega)
            have hy := y6
            rw [← hh] at hd4
            have made : gR2 (sN (rUp c0 1000 0 1 (m4 15 0 35)) m1) r (c 40 0 (c 1 0 10)) c_q m5 := by
              obtain ⟨yD, yE, yR⟩ := y6
              refine rule_made (i := i) (P := P) hy (by rw [fm4.2 45 (by decide)]; exact w45) fM f44 f81 (by rw [← hh]; exact hd4) (by rw [← hh]; exact ht4.1) ⟨i0, i4⟩ (by rw [← hh, f3.1 10 (by decide) (by decide)]; exact hP) (by rw [g4 69 (by decide), f4.1 69 (by decide) (by decide)]; exact v69) ⟨P0, ?_, ?_⟩ (by rw [g4 71 (by decide), f4.1 71 (by decide) (by decide), v71, ← hh, f3.1 10 (by decide) (by decide)]; exact hy1.symm) (by rw [← hh, f3.1 10 (by decide) (by decide)]; exact hy2) (by rw [← hh, f3.1 10 (by decide) (by decide), f3.1 43 (by decide) (by decide)]; exact hy3) (by rw [← hh, f3.1 10 (by decide) (by decide), g4 72 (by decide), f4.1 72 (by decide) (by decide), v72]; exact hy4.1) (by rw [← hh, f3.1 10 (by decide) (by decide), f3.1 43 (by decide) (by decide), f3.1 46 (by decide) (by decide)]; exact hy4.2) (fun k k0 k1 => ?_)
              · have := yE.2.2.2.2.1
                rw [fm4.2 14 (by decide)] at this
                omega
              · rw [yE.2.2.2.2.2 P (by rw [fm4.2 14 (by decide)]; exact P1), fm4.1 66 (by decide) (by decide)]; exact P2
              · rw [← hh, g4 70 (by decide), g4 76 (by decide)]
                obtain ⟨z1, z2⟩ := f4n k k0 k1
                rw [← f4.1 85 (by decide) (by decide)] at z1
                rw [← f4.1 87 (by decide) (by decide)] at z2
                rw [show k + 4 * r = 4 * r + k by omega, z1, z2]
                rcases ht4.2.2 k k0 k1 with ⟨q1, q2, q3⟩ | ⟨q1, q2, q3, q4, q5⟩ | ⟨q1, q2⟩
                · exact Or.inl ⟨q1, q2, vE_of hR4_q (by decide) (by rw [hN_q, fm.2 34 (by decide)]; exact hK.2.2.2.2.2.2.1.2.1) q3⟩
                · exact Or.inr (Or.inl ⟨q1, q2, q3, q4⟩)
                · exact Or.inr (Or.inr ⟨q1, q2⟩)
            have fcc : fH 2 [1] [] c_q (rUp c_q 1 0 10 (c_q 1 0 10 + 1)) := fH_grp fH_refl (by decide) (by decide)
            have fmm : fH 15 [] [33] m5 (rUp m5 15 0 33 (mS 15 0 33 + 1)) := fH_fld fH_refl (by decide)
            have E5 : fE r m_q m5 := fE_tr (fE_H fM (by decide) (by decide)) ⟨fun K x z1 z2 => ?_, fun K x z1 _ => by rw [f44.1 K (by rcases z1 with rfl | rfl <;> decide) (by omega)], fun K x z1 _ => by rw [f44.1 K (by rcases z1 with rfl | rfl | rfl <;> decide) (by omega)], fun K x z1 z2 => ?_, by rw [f44.2 14 (by decide)]; exact Int.le_refl _, fun p _ => by rw [f44.1 66 (by decide) (by decide)]⟩
            · refine Or.inl ⟨rUp c_q 1 0 10 (c_q 1 0 10 + 1), rUp m5 15 0 33 (mS 15 0 33 + 1), rfl, rfl, r1, r2, ⟨?_, ?_, fun z => sN_H (hR5.2.2.1.2.2.2.2 (sN_0 fc0_q fm z)) fcc (by decide) fmm (by decide) (by decide)⟩, Or.inr ⟨by rw [rUp_at, c10_q], rUp_at, ?_⟩⟩
              · rw [eR] at hD ⊢
                exact fD_tr (fD_tr (fD_tr hD (fD_H f3 (by decide))) hy.1) (fD_H fcc (by decide))
              · rw [hr]
                exact fE_tr (fE_tr (fE_tr (fE_tr hE_q E4) hy.2.1) E5) (fE_H fmm (by decide) (by decide))
              · rw [hr, eR]
                refine gR2_E (gR2_to made (by rw [fcc.1 9 (by decide) (by decide)]) (fun K g z _ _ => by rw [fcc.1 K (by rcases z with rfl | rfl | rfl | rfl <;> decide) (by omega)]) (fun K z => by rw [fmm.1 K (by simp) (by omega)]) (fun K k z _ _ => by rw [fmm.1 K (by simp) (by omega)]) (fun K k z _ _ => by rw [fmm.1 K (by simp) (by omega)]) (fun K g j z _ _ _ _ => by rw [fmm.1 K (by simp) (by omega)]) (by rw [fmm.2 14 (by decide)]; exact Int.le_refl _) (fun p _ => by rw [fmm.1 66 (by decide) (by decide)])) (sN_0 fc0_q fm)
            · rcases z1 with rfl | rfl | rfl | rfl | rfl
              · rw [f44.1 69 (by decide) (by decide)]
              · rw [f44.1 71 (by decide) (by decide)]
              · rw [f44.1 72 (by decide) (by decide)]
              · rw [f44.1 73 (by decide) (by decide)]
              · exact f75 x (by omega)
            · rcases z1 with rfl | rfl
              · exact f80 x z2
              · rw [f44.1 81 (by decide) (by decide)]
          · rw [y1, zLoop_inr ((en49_goals w48_q y2).2 rfl)]
            exact Or.inr ⟨_, _, if_neg (show ¬ (1 : Int) ≤ 0 by decide), rfl, bad_all y3 hN_q hF fc0_q fm (by rw [eR] at hD ⊢; exact fD_tr (fD_tr hD (fD_H f3 (by decide))) yD) (by rw [hr]; exact fE_tr (fE_tr hE_q E4) yE)⟩
        · rw [if_neg (show ¬ mS 15 0 33 + mS 15 0 32 ≠ 60 by omega)]
          have E151 : fn151 [h] c = (0, 0, rUp (rUp (rUp c 2 0 6 (m 15 0 35 + 1)) 2 0 6 (m 15 0 35 + 2)) 2 0 4 (c 10 h 7)) := by
            unfold fn151
            simp only [zLet, List.getD_cons_zero, k1, x6, l3, tb, fn109_eq]
            rw [if_pos hL, if_pos hL58, if_neg (show ¬ m 15 0 35 + 1 ≥ m 15 0 34 by omega), if_pos h45, if_neg (by rw [c10]; exact h60)]
          rw [E151]
          exact Or.inr ⟨_, _, if_neg (show ¬ (1 : Int) ≤ 0 by decide), rfl, bad _ _ (fH_fld (fH_fld (fH_fld fH_refl (by decide)) (by decide)) (by decide)) (fH_trans (fH_fld fH_refl (by decide)) (fH_sub fn8_fr (by decide) (by decide)))⟩
      · rw [if_neg h45]
        have E151 : fn151 [h] c = (0, 0, rUp (rUp c 2 0 6 (m 15 0 35 + 1)) 2 0 4 (m 15 0 35 + 1)) := by
          unfold fn151
          simp only [zLet, List.getD_cons_zero, k1, x6, l3, tb, fn109_eq]
          rw [if_pos hL, if_pos hL58, if_neg (show ¬ m 15 0 35 + 1 ≥ m 15 0 34 by omega), if_neg h45]
        rw [E151]
        exact Or.inr ⟨_, _, if_neg (show ¬ (1 : Int) ≤ 0 by decide), rfl, bad _ _ (fH_fld (fH_fld fH_refl (by decide)) (by decide)) (fH_sub fn8_fr (by decide) (by decide))⟩
    · rw [if_neg (show ¬ (0 : Int) ≤ -m 15 0 35 + mS 15 0 34 + -2 by omega)]
      have E151 : fn151 [h] c = (0, 0, rUp (rUp c 2 0 6 (m 15 0 35 + 1)) 2 0 4 (m 15 0 35 + 1)) := by
        unfold fn151
        simp only [zLet, List.getD_cons_zero, k1, x6, l3, fn109_eq]
        rw [if_pos hL, if_pos hL58, if_pos (show m 15 0 35 + 1 ≥ m 15 0 34 by omega)]
      rw [E151]
      exact Or.inr ⟨_, _, if_neg (show ¬ (1 : Int) ≤ 0 by decide), rfl, bad _ _ (fH_fld (fH_fld fH_refl (by decide)) (by decide)) (fH_sub fn8_fr (by decide) (by decide))⟩
  · rw [if_neg h58]
    have E151 : fn151 [h] c = (0, 0, rUp c 2 0 4 (m 15 0 35)) := by
      unfold fn151
      simp only [zLet, List.getD_cons_zero, k1, x6, fn109_eq]
      by_cases hL : 0 ≤ L
      · rw [if_pos hL, if_neg (fun z => h58 ⟨k4.1 hL, by rw [qL_is k3 (by decide) (by decide), pB_in (k4.1 hL)] at z; exact z⟩)]
      · rw [if_neg hL]
    rw [E151]
    exact Or.inr ⟨_, _, if_neg (show ¬ (1 : Int) ≤ 0 by decide), rfl, bad _ _ (fH_fld fH_refl (by decide)) (fH_sub fn8_fr (by decide) (by decide))⟩
/-- behind the HEAD and its PREDICATE -/
theorem rest_two {N0 h i P : Int} {H : Int → Prop} {cS mS c0 m1 c m g1 : rHp} {fresh : Bool} (hK : qK N0 cS mS) (hs : qRs cS mS c0 m1 h i P H c m g1) (hat : c0 1000 0 1 = mS 15 0 35) (hN : c0 1000 0 0 = N0) (fc0 : fH 2 [9, 1000] [5, 13, 16] cS c0) (fm : fH 15 [73, 74] [44, 45, 58] mS m1) (hfr : fresh = true → ∀ f, 0 ≤ f → f < cS 1 0 9 → mS 67 0 f < P) (hfo : fresh = false → m 15 0 14 = mS 15 0 14) :
    qCo N0 cS mS (qC2 h (fn114 [] c)) (zGoo (en49 mS) (qD2 mS g1 m P fresh)) := by
  have hs0 := hs
  obtain ⟨hR, hB, hd, ht, hi, z46, hP, hP2, h7, h16, h73, hh, g48, g87, hy, hw, hD, hE, hne⟩ := hs0
  obtain ⟨q, L, l1, l2, l3, l4, l5, l6, l7⟩ := look_two hR.1 hR.2.1 [] []
  have a0 := hR.2.1.2.1
  have e34 : m 15 0 34 = mS 15 0 34 := (hR.2.2.2.2.2.2.2.1.2 34 (by decide)).trans (fm.2 34 (by decide))
  have f1 : fH 2 [] [6] c (rUp c 2 0 6 q) := fH_fld fH_refl (by decide)
  have f2 : fH 15 [] [35] m (rUp m 15 0 35 q) := fH_fld fH_refl (by decide)
  have t6 : rUp c 2 0 6 q 2 0 6 = q := rUp_at
  have u35 : rUp m 15 0 35 q 15 0 35 = q := rUp_at
  have hs1 : qRs cS mS c0 m1 h i P H (rUp c 2 0 6 q) (rUp m 15 0 35 q) g1 := by
    refine ⟨?_, qB_up hB (f1.2 5 (by decide)) (f1.2 16 (by decide)) (f1.1 25 (by decide) (by decide)) f2 (by decide) (by decide) (by rw [u35]; exact l3), qHd_up hd (by rw [f1.1 10 (by decide) (by decide)]) (by rw [f1.1 43 (by decide) (by decide)]) (by rw [f1.1 44 (by decide) (by decide)]), qHt_up ht f1 (by decide) (by rw [f1.1 10 (by decide) (by decide)]) f2 (by decide) (by decide), hi, by rw [f1.1 46 (by decide) (by decide)]; exact z46, by rw [f1.1 10 (by decide) (by decide)]; exact hP, by rw [f2.2 14 (by decide), f2.1 66 (by decide) (by decide)]; exact hP2, by rw [f1.2 7 (by decide)]; exact h7, by rw [f1.2 16 (by decide)]; exact h16, by rw [f2.1 73 (by decide) (by decide), f2.2 44 (by decide)]; exact h73, by rw [f1.1 40 (by decide) (by decide), f1.1 1 (by decide) (by decide)]; exact hh, g48, by rw [f2.1 87 (by decide) (by decide)]; exact g87, by unfold qHy qHx; rw [f1.1 10 (by decide) (by decide), f1.1 43 (by decide) (by decide), f1.1 46 (by decide) (by decide)]; exact hy, by rw [f2.2 44 (by decide), f2.2 45 (by decide)]; exact hw, fD_tr hD (fD_H f1 (by decide)), fE_tr hE (fE_H f2 (by decide) (by decide)), hne⟩
    refine qR_up hR (fH_sub f1 (by decide) (by decide)) (fH_sub f2 (by decide) (by decide)) ?_ ?_ ?_ ?_
    · rw [t6, u35]
    · rw [u35]; omega
    · rw [u35]; omega
    · rw [u35]; exact l4
  have u34 : rUp m 15 0 35 q 15 0 34 = m 15 0 34 := rUp_ne (by decide)
  have u59 : rUp m 15 0 35 q 59 = m 59 := rUp_grp (by decide)
  have hsk : pSk (rUp m 15 0 35 q 59 0) (rUp m 15 0 35 q 15 0 34) (rUp m 15 0 35 q 15 0 35) = rUp m 15 0 35 q 15 0 35 := by rw [u59, u34, u35]; exact l7
  have rr := rest_rule hK hs1 hat hN fc0 fm hsk
  have rf := rest_fact hK hs1 hN fc0 fm hat hfr (fun z => (f2.2 14 (by decide)).trans (hfo z)) hsk
  rw [l1]
  unfold qC2 qD2
  rw [l2]
  simp only
  generalize rUp c 2 0 6 q = c2 at *
  generalize rUp m 15 0 35 q = m2 at *
  rw [u35, u34, u59] at rr rf
  rw [u35, u34, u59, ← e34]
  rw [← e34] at rr
  by_cases hn : q < m 15 0 34
  · rw [if_pos (l6.2 hn), if_pos (show (0 : Int) ≤ -q + m 15 0 34 + -1 by omega), pB_in hn]
    rw [pB_in hn] at l5
    by_cases h46 : m 59 0 q = 46
    · rw [if_neg (show ¬ L ≠ 46 from fun z => z (by rw [qL_is l5 (by decide) (by decide)]; exact h46)), if_neg (show ¬ m 59 0 q ≠ 46 from fun z => z h46)]
      exact rf hn h46
    · rw [if_pos (show L ≠ 46 by rw [ne_eq, qL_is l5 (by decide) (by decide)]; exact h46), if_pos (show m 59 0 q ≠ 46 from h46)]
      by_cases h58 : m 59 0 q = 58
      · rw [if_pos (show q < m 15 0 34 ∧ m 59 0 q = 58 from ⟨hn, h58⟩)] at rr
        rw [if_pos h58]
        exact rr
      · rw [if_neg (show ¬ (q < m 15 0 34 ∧ m 59 0 q = 58) from fun z => h58 z.2)] at rr
        rw [if_neg h58]
        exact rr
  · rw [if_neg (show ¬ 0 ≤ L from fun z => hn (l6.1 z)), if_neg (show ¬ (0 : Int) ≤ -q + m 15 0 34 + -1 by omega)]
    rw [if_neg (show ¬ (q < m 15 0 34 ∧ m 59 0 q = 58) from fun z => hn z.1)] at rr
    rcases rr with ⟨c_q, m_q, q1, q2, q3⟩ | ⟨c_q, m_q, q1, q2, q3⟩
    · exact absurd (congrArg (fun r => r.2.1) q2) (show ¬ (0 : Int) = 1 by decide)
    · refine Or.inr ⟨(fn151 [h] c2).2.2, m_q, rfl, q2, ?_⟩
      have e151 : fn151 [h] c2 = (0, 0, rUp c2 2 0 4 q) := by
        obtain ⟨L2, j1, j2, j3, j4⟩ := look_at hs1.1.1 hs1.1.2.1 hsk [] []
        have hx : ¬ 0 ≤ L2 := fun z => hn (by have := j4.1 z; rw [u35, u34] at this; exact this)
        unfold fn151
        simp only [zLet, List.getD_cons_zero, j1, t6, fn109_eq]
        rw [if_neg hx]
      rw [e151] at q1 ⊢
      rw [if_neg (show ¬ (1 : Int) ≤ 0 by decide)] at q1
      have : rUp c2 2 0 4 q = c_q := congrArg (fun r => r.2.2) q1
      rw [this]
      exact q3
/-- a CLAUSE -/
theorem clause_two {N0 h : Int} {c m : rHp} (hK : qK N0 c m) (hh : h = 9 * c 40 0 (c 1 0 10)) (hl : m 15 0 34 ≠ 0) : qCo N0 c m (qC1 h c) (fn49 [] m) := by
  obtain ⟨c0, c1, m1, e1, e2, hR, hB, hN, hat, fc, fm, h73, h1j, h40, h16, gc, h3, h26, h19, h20, fc0, fdc, fde, m44, m45⟩ := clause_pre hK
  have hne : m1 15 0 34 ≠ 0 := by rw [fm.2 34 (by decide)]; exact hl
  have hF := hK.2.2.2.2.2.2.2.2.2
  have h00 : 0 ≤ c0 1000 0 0 := by rw [hN]; exact hK.2.2.2.2.2.2.1.1
  have hlim : 2 * c0 1000 0 0 + m1 15 0 34 ≤ 10239 := by rw [hN, fm.2 34 (by decide)]; exact hK.2.2.2.2.2.2.1.2.1
  have hh1 : h = 9 * c1 40 0 (c1 1 0 10) := by rw [fc.1 40 (by decide) (by decide), fc.1 1 (by decide) (by decide)]; exact hh
  have hw := head_two hR hB h00 hlim hh1
  have e146 : fn146 [] c = qH6 c1 := by rw [fn146_eq, e1]
  have e49 : fn49 [] m = if 1 ≤ (fn27 [] m1).2.1 then zLoop (en49 m) (0, [0], (fn27 [] m1).2.2) else (0, 0, (fn27 [] m1).2.2) := by
    unfold fn49 dn49
    simp only [zLet, e2]
    by_cases b : 1 ≤ (fn27 [] m1).2.1
    · rw [if_pos b, if_pos b]; rfl
    · rw [if_neg b, if_neg b]; rfl
  have ho : fO (qH0 c1) c1 (qH6 c1).2.2 := qH6_o
  have hY : fY (8 * (m 15 0 33 + m 15 0 32)) m1 (fn27 [] m1).2.2 := fn27_y
  have eR1 : c1 40 0 (c1 1 0 10) = c 40 0 (c 1 0 10) := by rw [fc.1 40 (by decide) (by decide), fc.1 1 (by decide) (by decide)]
  have l03 : c0 2 0 3 = m1 15 0 34 := by rw [← hR.2.2.2.2.2.1.2 3 (by decide)]; exact hR.1.1
  have toD : ∀ c_q, (qH6 c1).2.2 = c_q → c_q 2 0 3 = c0 2 0 3 → fD (c 40 0 (c 1 0 10)) c c_q := fun c_q z1 z2 => by
    rw [z1] at ho
    exact fD_tr fdc (fD_o ho (by rw [z2, l03]; exact hne) (by unfold qH0; rw [eR1]; omega) (by unfold qH0; rw [eR1]; omega))
  have toE : ∀ m_q, (fn27 [] m1).2.2 = m_q → m_q 15 0 34 = m1 15 0 34 → fE (m 15 0 33 + m 15 0 32) m m_q := fun m_q z1 z2 => by
    rw [z1] at hY
    exact fE_tr fde (fE_y hY (by rw [z2]; exact hne) (Int.le_refl _))
  unfold qC1
  rw [e146, e49]
  rcases hw with ⟨H, i, w, c9, m9, w1, w2, w3, w4, w5, w6, w7, w8, w9, w10, w11, w12, w13⟩ | ⟨c_q, m_q, w1, w2, w3⟩
  · rw [w1, w2]
    simp only
    rw [if_pos (show (1 : Int) ≤ 1 by decide)]
    have w4_q := w4
    obtain ⟨s1, s2, s3, s4, s5, s6, s7, s8, s9, s10⟩ := w4_q
    obtain ⟨H_q, m10, o1, o2, o3, o4⟩ := owe_loop (mS := m) (c := c9) (m9 := m9) (h := h) (i := i) (fun k k0 k1 k2 => by
      rcases s7 k k0 k1 with ⟨q1, q2, q3⟩ | ⟨q1, q2, q3, q4, q5⟩ | ⟨q1, q2⟩
      · omega
      · rw [← q3]; exact ⟨q4, q5⟩
      · omega) s4 i.toNat 0 H m9 (by omega) (by decide) s1 fH_refl
    rw [o1]
    have hd : qHd H_q c9 h := owed_hd w4 o4
    have hR10 : qR 0 c0 m1 c9 m10 := by
      refine qR_up w3 fH_refl (fH_sub o3 (by decide) (by decide)) ?_ ?_ ?_ ?_
      · rw [o3.2 35 (by decide)]; exact w3.2.1.1
      · rw [o3.2 35 (by decide)]; exact Int.le_refl _
      · rw [o3.2 35 (by decide)]; exact w3.2.1.2.1
      · rw [o3.2 35 (by decide)]; exact w3.2.1.2.2
    have ht10 : qHt c9 m10 h i := qHt_up (L := []) (J := []) ⟨s3, s4, s7⟩ fH_refl (by decide) rfl o3 (by decide) (by decide)
    have h7 : c9 2 0 7 = 0 := by rw [w7.2 7 (by decide), fc.2 7 (by decide)]; exact hK.2.2.2.2.2.1
    have hh9 : h = 9 * c9 40 0 (c9 1 0 10) := by rw [w7.1 40 (by decide) (by decide), w7.1 1 (by decide) (by decide)]; exact hh1
    have q48 : m10 15 0 48 = i := ht10.2.1
    have q14 : m10 15 0 14 = m 15 0 14 := by rw [o3.2 14 (by decide), w8.2 14 (by decide), fm.2 14 (by decide)]
    have q16 : c9 2 0 16 = 0 := by rw [w7.2 16 (by decide)]; exact h16
    have q73 : m10 73 0 (m10 15 0 44) = 0 := by rw [o3.1 73 (by decide) (by decide), o3.2 44 (by decide), w8.1 73 (by decide) (by decide), w8.2 44 (by decide)]; exact h73
    have hW10 : qW pSm (m10 59 0) (m9 15 0 34) w (m10 15 0 46) (m10 15 0 47) := by
      rw [o3.1 59 (by decide) (by decide), o3.2 46 (by decide), o3.2 47 (by decide)]; exact w10
    have badp : ∀ c_q, fn133 [] c9 = (0, 0, c_q) → (if 1 ≤ (if 1 ≤ (fn133 [] c9).2.1 then ((0 : Nat), (1 : Int), (fn133 [] c9).2.2) else (0, 0, (fn133 [] c9).2.2)).2.1 then qC2 h (fn114 [] (if 1 ≤ (fn133 [] c9).2.1 then ((0 : Nat), (1 : Int), (fn133 [] c9).2.2) else (0, 0, (fn133 [] c9).2.2)).2.2) else (0, 0, (if 1 ≤ (fn133 [] c9).2.1 then ((0 : Nat), (1 : Int), (fn133 [] c9).2.2) else (0, 0, (fn133 [] c9).2.2)).2.2)) = (0, 0, c_q) := by
      intro c_q z
      rw [z]
      rfl
    have okp : ∀ c_q, fn133 [] c9 = (0, 1, c_q) → (if 1 ≤ (if 1 ≤ (fn133 [] c9).2.1 then ((0 : Nat), (1 : Int), (fn133 [] c9).2.2) else (0, 0, (fn133 [] c9).2.2)).2.1 then qC2 h (fn114 [] (if 1 ≤ (fn133 [] c9).2.1 then ((0 : Nat), (1 : Int), (fn133 [] c9).2.2) else (0, 0, (fn133 [] c9).2.2)).2.2) else (0, 0, (if 1 ≤ (fn133 [] c9).2.1 then ((0 : Nat), (1 : Int), (fn133 [] c9).2.2) else (0, 0, (fn133 [] c9).2.2)).2.2)) = qC2 h (fn114 [] c_q) := by
      intro c_q z
      rw [z]
      rfl
    have E9 : fE (m 15 0 33 + m 15 0 32) m m9 := toE m9 (by rw [w2]) (w3.2.2.2.2.2.2.2.1.2 34 (by decide))
    have E10 : fE (m 15 0 33 + m 15 0 32) m m10 := fE_tr E9 (fE_H o3 (by decide) (by decide))
    have q44 : m10 15 0 44 = m 15 0 33 + m 15 0 32 := by rw [o3.2 44 (by decide), w8.2 44 (by decide)]; exact m44
    have q45 : m10 15 0 45 = 0 := by rw [o3.2 45 (by decide), w8.2 45 (by decide)]; exact m45
    have hy9 : qHy c9 m10 h i := ⟨by rw [o3.2 49 (by decide)]; exact s5, s6, s9, by unfold qHx; rw [o3.2 50 (by decide)]; exact s10⟩
    rcases hpred_two hR10 (by decide) hh9 w9 s3 h7 hW10 with ⟨P, c10, p1, p2, p3, p4, p5, p6, p7, p8, p9, p10⟩ | ⟨c10, m2, p1, p2, p3, p4, p5, p6, p7, p8, p9, p10, p11, p12, p13⟩ | ⟨c_q, p1, p2, p3, p4⟩
    · rw [okp c10 p1, zLoop_eq, en49_old q48 p2 p3]
      refine rest_two hK ⟨p6, qB_c o2 (p7.2 5 (by decide)) (p7.2 16 (by decide)) (p7.1 25 (by decide) (by decide)), ?_, ?_, ⟨by omega, w6⟩, by rw [p7.1 46 (by decide) (by decide)]; exact w11, p9, ⟨p3, p4, p5⟩, by rw [p7.2 7 (by decide)]; exact h7, by rw [p7.2 16 (by decide)]; exact q16, q73, ?_, q48, fun _ => rfl, ?_, ⟨rfl, q44, q45⟩, toD c10 (by rw [w1, p1]; rfl) (p6.2.2.2.2.2.1.2 3 (by decide)), E10, hne⟩ hat hN fc0 fm (fun z => absurd z (by decide)) (fun _ => q14)
      · unfold qHd at hd ⊢
        rw [p8 h 5 (by omega), p8 h 12 (by omega), p8 h 14 (by omega), p7.1 43 (by decide) (by decide), p7.1 44 (by decide) (by decide)]
        exact hd
      · exact qHt_up (L2 := []) (J2 := []) ht10 p7 (by decide) (p8 h 5 (by omega)) fH_refl (by decide) (by decide)
      · rw [p7.1 40 (by decide) (by decide), p10 10 (by decide)]; exact hh9
      · unfold qHy qHx at hy9 ⊢
        rw [p8 h 12 (by omega), p8 h 13 (by omega), p8 h 14 (by omega), p7.1 43 (by decide) (by decide), p7.1 46 (by decide) (by decide)]
        exact hy9
    · have hY39 : fY (8 * (m 15 0 33 + m 15 0 32)) m10 (fn39 [m10 15 0 46, m10 15 0 47, i] m10).2.2 := fn39_y
      rw [p4] at hY39
      have hY39 : fY (8 * (m 15 0 33 + m 15 0 32)) m10 m2 := hY39
      rw [okp c10 p1, zLoop_eq, en49_new q48 p2 (by rw [← q14]; exact p3) (by rw [← q14]; exact p4)]
      rw [q14] at p5 p6 p7 p11
      have P0 := hK.2.2.2.2.1.2.1
      refine rest_two (H := H_q) hK ⟨p8, ?_, ?_, ?_, ⟨by omega, w6⟩, by rw [p9.1 46 (by decide) (by decide)]; exact w11, p11, ⟨P0, by rw [p6]; omega, p5⟩, by rw [p9.2 7 (by decide)]; exact h7, by rw [p9.2 16 (by decide)]; exact q16, by rw [p13.1 73 (by decide) (by decide), p13.2 44 (by decide)]; exact q73, ?_, q48, fun k => by rw [p13.1 87 (by decide) (by decide)], ?_, ⟨by rw [p13.2 44 (by decide)], by rw [p13.2 44 (by decide)]; exact q44, by rw [p13.2 45 (by decide)]; exact q45⟩, toD c10 (by rw [w1, p1]; rfl) (p8.2.2.2.2.2.1.2 3 (by decide)), fE_tr E10 (fE_y hY39 (by rw [p8.2.2.2.2.2.2.2.1.2 34 (by decide)]; exact hne) (Int.le_refl _)), hne⟩ hat hN fc0 fm (fun _ f f0 f1 => (hF f f0 f1).2.1.2.1) (fun z => absurd z (by decide))
      · exact qB_up o2 (p9.2 5 (by decide)) (p9.2 16 (by decide)) (p9.1 25 (by decide) (by decide)) p13 (by decide) (by decide) (by rw [p13.2 35 (by decide)]; exact Int.le_refl _)
      · unfold qHd at hd ⊢
        rw [p10 h 5 (by omega), p10 h 12 (by omega), p10 h 14 (by omega), p9.1 43 (by decide) (by decide), p9.1 44 (by decide) (by decide)]
        exact hd
      · exact qHt_up ht10 p9 (by decide) (p10 h 5 (by omega)) p13 (by decide) (by decide)
      · rw [p9.1 40 (by decide) (by decide), p12 10 (by decide)]; exact hh9
      · unfold qHy qHx at hy9 ⊢
        rw [p10 h 12 (by omega), p10 h 13 (by omega), p10 h 14 (by omega), p9.1 43 (by decide) (by decide), p9.1 46 (by decide) (by decide)]
        exact hy9
    · rw [badp c_q p1, zLoop_inr (en49_full q48 p2 (by rw [← q14]; exact p3))]
      exact Or.inr ⟨_, _, rfl, rfl, bad_all (qZ_more p4 fH_refl (fH_sub fn8_fr (by decide) (by decide))) hN hF fc0 fm (toD c_q (by rw [w1, p1]; rfl) (p4.2.2.1.2 3 (by decide))) (fE_tr E10 (fE_H fn8_fr (by decide) (by decide)))⟩
  · rw [w1, w2]
    exact Or.inr ⟨c_q, m_q, rfl, rfl, bad_all w3 hN hF fc0 fm (toD c_q (by rw [w1]) (w3.2.2.1.2 3 (by decide))) (toE m_q (by rw [w2]) (w3.2.2.2.2.1.2 34 (by decide)))⟩
