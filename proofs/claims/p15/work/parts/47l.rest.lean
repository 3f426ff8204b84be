/-! ===== a CLAUSE behind its HEAD, by both ===== -/
theorem gNc_to {a b c : rHp} (h : gNc b c) (h3 : b 3 = a 3) (h26 : b 26 = a 26) : gNc a c := by
  unfold gNc at h ⊢
  rw [← h3, ← h26]
  exact h
theorem FR_at {cS mS c0 m1 c m : rHp} {n : Int} (hF : FR cS mS n) (fc0 : fH 2 [9, 1000] [5, 13, 16] cS c0) (fm : fH 15 [73, 74] [44, 45, 58] mS m1) (hN : qN c0 m1 c m) (a6 : fH 2 lCC jCC c0 c) (a8 : fH 15 lMM jMM m1 m) (a9 : m1 15 0 14 ≤ m 15 0 14 ∧ ∀ p, p < m1 15 0 14 → m 66 0 p = m1 66 0 p) : FR c m n ∧ gNc cS c ∧ gNm mS m := by
  have gc : gNc cS c := gNc_to hN.2.2.1 (fc0.1 3 (by decide) (by decide)) (fc0.1 26 (by decide) (by decide))
  have gm : gNm mS m := gNm_trans (gNm_fl fm (by decide) (by decide) (by decide) (by decide) (by decide)) hN.2.2.2.1
  have e14 : m1 15 0 14 = mS 15 0 14 := fm.2 14 (by decide)
  refine ⟨FR_grow hF gc gm ?_ ?_ ?_ ?_ (by rw [← e14]; exact a9.1) (fun p hp => by rw [a9.2 p (by rw [e14]; exact hp), fm.1 66 (by decide) (by decide)]), gc, gm⟩
  · rw [a6.1 19 (by decide) (by decide), fc0.1 19 (by decide) (by decide)]
  · rw [a6.1 20 (by decide) (by decide), fc0.1 20 (by decide) (by decide)]
  · rw [a8.1 67 (by decide) (by decide), fm.1 67 (by decide) (by decide)]
  · rw [a8.1 68 (by decide) (by decide), fm.1 68 (by decide) (by decide)]
noncomputable def lT : List Nat := [9, 10, 24, 25, 43, 44, 45, 46, 1, 3, 16, 17, 22, 23, 26, 1000, 19, 20]
noncomputable def lU : List Nat := [69, 70, 71, 72, 73, 75, 76, 77, 78, 79, 80, 81, 85, 86, 87, 88, 89, 90, 91, 61, 62, 63, 64, 65, 66, 74, 82, 83, 84, 67, 68]
noncomputable def jU : List Int := [35, 36, 37, 38, 39, 40, 45, 46, 47, 48, 49, 50, 58, 8, 9, 14, 18, 33, 44]
/-- how a CLAUSE that is taken changes the cells -/
noncomputable def qKg (c m c_q m_q : rHp) : Prop := gNc c c_q ∧ gNm m m_q ∧ fH 2 lT jCC c c_q ∧ (∀ j, j ≠ 7 → j ≠ 9 → j ≠ 10 → c_q 1 0 j = c 1 0 j) ∧ fH 15 lU jU m m_q ∧ m 15 0 14 ≤ m_q 15 0 14 ∧ (∀ f, f < m 15 0 17 + m 15 0 18 → m_q 67 0 f = m 67 0 f) ∧ m 15 0 18 ≤ m_q 15 0 18 ∧ m 15 0 33 ≤ m_q 15 0 33 ∧ m 15 0 35 < m_q 15 0 35
/-- what is left when one is BROKEN -/
noncomputable def qKb (N0 : Int) (c m c_q m_q : rHp) : Prop := qNc c_q ∧ qNm m_q ∧ qP c_q m_q ∧ 2 * c_q 3 0 1 ≤ 2 * N0 + m 15 0 34 + 1 ∧ gNc c c_q ∧ gNm m m_q ∧ fH 2 lT jCC c c_q ∧ (∀ j, j ≠ 7 → c_q 1 0 j = c 1 0 j) ∧ fH 15 lU jU m m_q ∧ m 15 0 14 ≤ m_q 15 0 14 ∧ FR c_q m_q (c 1 0 9) ∧ m_q 67 = m 67
theorem bad_of {N0 : Int} {cS mS c0 m1 c_q m_q : rHp} (hZ : qZ c0 m1 c_q m_q) (hN : c0 1000 0 0 = N0) (hF : FR cS mS (cS 1 0 9)) (fc0 : fH 2 [9, 1000] [5, 13, 16] cS c0) (fm : fH 15 [73, 74] [44, 45, 58] mS m1) : qKb N0 cS mS c_q m_q := by
  obtain ⟨a3, a4, a6, a7, a8, a9, a10⟩ := hZ
  obtain ⟨f1, f2, f3⟩ := FR_at hF fc0 fm a3 a6 a8 a9
  refine ⟨a3.1, a3.2.1, a4, ?_, f2, f3, fH_trans (fH_sub fc0 (by decide) (by decide)) (fH_sub a6 (by decide) (by decide)), fun j hj => by rw [a7 j hj, fc0.1 1 (by decide) (by decide)], fH_trans (fH_sub fm (by decide) (by decide)) (fH_sub a8 (by decide) (by decide)), ?_, f1, ?_⟩
  · rw [hN, fm.2 34 (by decide)] at a10; exact a10.1
  · rw [← fm.2 14 (by decide)]; exact a9.1
  · rw [a8.1 67 (by decide) (by decide), fm.1 67 (by decide) (by decide)]
theorem sN_0 {cS mS c0 m1 : rHp} (fc0 : fH 2 [9, 1000] [5, 13, 16] cS c0) (fm : fH 15 [73, 74] [44, 45, 58] mS m1) (h : sN cS mS) : sN c0 m1 := by
  unfold sN at h ⊢
  rw [fc0.1 3 (by decide) (by decide), fc0.1 26 (by decide) (by decide), fm.2 8 (by decide), fm.2 9 (by decide), fm.1 61 (by decide) (by decide), fm.1 62 (by decide) (by decide), fm.1 63 (by decide) (by decide)]
  exact h
theorem sN_H {c m c_q m_q : rHp} {L L2 : List Nat} {J J2 : List Int} (h : sN c m) (fc : fH 2 L J c c_q) (hL : ∀ x ∈ [3, 26], x ∉ L) (fm : fH 15 L2 J2 m m_q) (hL2 : ∀ x ∈ [61, 62, 63], x ∉ L2) (hJ2 : ∀ x ∈ [(8 : Int), 9], x ∉ J2) : sN c_q m_q := by
  unfold sN at h ⊢
  rw [fc.1 3 (hL 3 (by decide)) (by decide), fc.1 26 (hL 26 (by decide)) (by decide), fm.2 8 (hJ2 8 (by decide)), fm.2 9 (hJ2 9 (by decide)), fm.1 61 (hL2 61 (by decide)) (by decide), fm.1 62 (hL2 62 (by decide)) (by decide), fm.1 63 (hL2 63 (by decide)) (by decide)]
  exact h
/-- what a CLAUSE leaves as it is -/
noncomputable def qCg (cS mS c m : rHp) : Prop := fD (cS 40 0 (cS 1 0 10)) cS c ∧ fE (mS 15 0 33 + mS 15 0 32) mS m ∧ (sN cS mS → sN c m)
/-- a RULE has come, or none -/
noncomputable def qCn (cS mS c m : rHp) : Prop := qCg cS mS c m ∧ ((c 1 0 10 = cS 1 0 10 ∧ m 15 0 33 = mS 15 0 33 ∧ (m 15 0 18 = mS 15 0 18 + 1 ∨ m 15 0 18 = mS 15 0 18 ∧ m 15 0 14 = mS 15 0 14)) ∨ (c 1 0 10 = cS 1 0 10 + 1 ∧ m 15 0 33 = mS 15 0 33 + 1 ∧ gR2 (sN cS mS) (mS 15 0 33 + mS 15 0 32) (cS 40 0 (cS 1 0 10)) c m))
theorem bad_all {N0 : Int} {cS mS c0 m1 c_q m_q : rHp} (hZ : qZ c0 m1 c_q m_q) (hN : c0 1000 0 0 = N0) (hF : FR cS mS (cS 1 0 9)) (fc0 : fH 2 [9, 1000] [5, 13, 16] cS c0) (fm : fH 15 [73, 74] [44, 45, 58] mS m1) (hD : fD (cS 40 0 (cS 1 0 10)) cS c_q) (hE : fE (mS 15 0 33 + mS 15 0 32) mS m_q) : qKb N0 cS mS c_q m_q ∧ qCg cS mS c_q m_q :=
  ⟨bad_of hZ hN hF fc0 fm, hD, hE, fun z => hZ.1.2.2.2.2 (sN_0 fc0 fm z)⟩
/-- the HEAD's tally -/
noncomputable def qHy (c g : rHp) (h i : Int) : Prop := c 10 h 12 = g 15 0 49 ∧ (0 ≤ c 10 h 12 ∧ c 10 h 12 ≤ 4) ∧ ((∃ k, 0 ≤ k ∧ k < i ∧ c 43 h k = 4) ↔ 1 ≤ c 10 h 12) ∧ qHx c g h i
theorem pFd_congr {q r : Int → Bool} {n : Int} (h : ∀ j, 0 ≤ j → j < n → q j = r j) : pFd q n = pFd r n := by
  unfold pFd
  rw [pIx_congr _ 0 (Nat.le_refl _) h]
theorem pFd_none {q : Int → Bool} {n : Int} (h : ∀ j, 0 ≤ j → j < n → q j = true) : pFd q n = -1 := by
  unfold pFd
  exact if_pos (pIx_all.2 h)
/-- where both stand behind a HEAD and its PREDICATE P -/
noncomputable def qRs (cS mS c0 m1 : rHp) (h i P : Int) (H : Int → Prop) (c m g1 : rHp) : Prop :=
  qR 0 c0 m1 c m ∧ qB H c m ∧ qHd H c h ∧ qHt c m h i ∧ (0 ≤ i ∧ i ≤ 4) ∧ (∀ k, i ≤ k → k < 4 → c 46 h k = 0) ∧ c 10 h 8 = P ∧ (0 ≤ P ∧ P < m 15 0 14 ∧ m 66 0 P = i) ∧ c 2 0 7 = 0 ∧ c 2 0 16 = 0 ∧ m 73 0 (m 15 0 44) = 0 ∧ h = 9 * c 40 0 (c 1 0 10) ∧ g1 15 0 48 = i ∧ (∀ k, g1 87 0 k = m 87 0 k) ∧ qHy c g1 h i ∧ (g1 15 0 44 = m 15 0 44 ∧ m 15 0 44 = mS 15 0 33 + mS 15 0 32 ∧ m 15 0 45 = 0) ∧ fD (cS 40 0 (cS 1 0 10)) cS c ∧ fE (mS 15 0 33 + mS 15 0 32) mS m ∧ m1 15 0 34 ≠ 0
theorem qHt_up {c m c_q m_q : rHp} {L L2 : List Nat} {J J2 : List Int} {h i : Int} (hs : qHt c m h i) (fc : fH 2 L J c c_q) (hL : ∀ x ∈ [3, 26, 43, 44, 46], x ∉ L) (h5 : c_q 10 h 5 = c 10 h 5) (fm : fH 15 L2 J2 m m_q) (hL2 : ∀ x ∈ [61, 62, 63, 74, 85, 87], x ∉ L2) (hJ2 : ∀ x ∈ [(8 : Int), 9, 44, 48], x ∉ J2) : qHt c_q m_q h i := by
  obtain ⟨s1, s2, s3⟩ := hs
  have k : ∀ G, G ∈ [3, 26, 43, 44, 46] → c_q G = c G := fun G q => fc.1 G (hL G q) (by rintro rfl; exact absurd q (by decide))
  have n : ∀ G, G ∈ [61, 62, 63, 74, 85, 87] → m_q G = m G := fun G q => fm.1 G (hL2 G q) (by rintro rfl; exact absurd q (by decide))
  have j : ∀ x, x ∈ [(8 : Int), 9, 44, 48] → m_q 15 0 x = m 15 0 x := fun x q => fm.2 x (hJ2 x q)
  refine ⟨by rw [h5]; exact s1, by rw [j 48 (by decide)]; exact s2, fun x x0 x1 => ?_⟩
  unfold hArg
  rw [k 43 (by decide), k 44 (by decide), k 46 (by decide), n 85 (by decide), n 87 (by decide), n 74 (by decide), j 44 (by decide)]
  rcases s3 x x0 x1 with ⟨q1, q2, q3⟩ | q | q
  · exact Or.inl ⟨q1, q2, vR_up q3 (k 3 (by decide)) (k 26 (by decide)) (j 8 (by decide)) (j 9 (by decide)) (n 61 (by decide)) (n 62 (by decide)) (n 63 (by decide))⟩
  · exact Or.inr (Or.inl q)
  · exact Or.inr (Or.inr q)
theorem qK_of {N0 : Int} {cS mS c0 m1 c m : rHp} (hK : qK N0 cS mS) (hR : qR 0 c0 m1 c m) (hN : c0 1000 0 0 = N0) (fc0 : fH 2 [9, 1000] [5, 13, 16] cS c0) (fm : fH 15 [73, 74] [44, 45, 58] mS m1) (h7 : c 2 0 7 = 0) (hat : mS 15 0 35 < m 15 0 35) : qK N0 c m ∧ qKg cS mS c m := by
  obtain ⟨a1, a2, a3, a4, a5, a6, a7, a8, a9, a10⟩ := hR
  obtain ⟨k1, k2, k3, k4, k5, k6, k7, k8, k9, k10⟩ := hK
  obtain ⟨f1, f2, f3⟩ := FR_at k10 fc0 fm a3 a6 a8 a9
  have j1 : ∀ j, j ≠ 7 → c 1 0 j = cS 1 0 j := fun j hj => by rw [a7 j hj, fc0.1 1 (by decide) (by decide)]
  have e34 : m 15 0 34 = mS 15 0 34 := (a8.2 34 (by decide)).trans (fm.2 34 (by decide))
  have e : ∀ j, j ∉ jMM → j ∉ [(44 : Int), 45, 58] → m 15 0 j = mS 15 0 j := fun j z1 z2 => (a8.2 j z1).trans (fm.2 j z2)
  refine ⟨⟨a1, a2, a3.1, a3.2.1, a4, h7, ⟨k7.1, by rw [e34]; exact k7.2.1, ?_⟩, ?_, ?_, by rw [j1 9 (by decide)]; exact f1⟩, f2, f3, fH_trans (fH_sub fc0 (by decide) (by decide)) (fH_sub a6 (by decide) (by decide)), fun j z _ _ => j1 j z, fH_trans (fH_sub fm (by decide) (by decide)) (fH_sub a8 (by decide) (by decide)), ?_, fun f _ => ?_, ?_, ?_, hat⟩
  · have z := a10.1
    rw [hN] at z; omega
  · rw [j1 10 (by decide), e 32 (by decide) (by decide), e 33 (by decide) (by decide)]; exact k8
  · rw [j1 9 (by decide), e 17 (by decide) (by decide), e 18 (by decide) (by decide)]; exact k9
  · rw [← fm.2 14 (by decide)]; exact a9.1
  · rw [a8.1 67 (by decide) (by decide), fm.1 67 (by decide) (by decide)]
  · rw [e 18 (by decide) (by decide)]; exact Int.le_refl _
  · rw [e 33 (by decide) (by decide)]; exact Int.le_refl _
/-- both take the CLAUSE, or both find it BROKEN -/
noncomputable def qCo (N0 : Int) (cS mS : rHp) (r s : zR) : Prop := (∃ c_q m_q, r = (0, 1, c_q) ∧ s = (0, 1, m_q) ∧ qK N0 c_q m_q ∧ qKg cS mS c_q m_q ∧ qCn cS mS c_q m_q) ∨ (∃ c_q m_q, r = (0, 0, c_q) ∧ s = (0, 0, m_q) ∧ qKb N0 cS mS c_q m_q ∧ qCg cS mS c_q m_q)
/-- a FACT's end; c, m have looked: the . is at hand -/
theorem rest_fact {N0 h i P : Int} {H : Int → Prop} {cS mS c0 m1 c m g1 : rHp} {fresh : Bool} (hK : qK N0 cS mS) (hs : qRs cS mS c0 m1 h i P H c m g1) (hN : c0 1000 0 0 = N0) (fc0 : fH 2 [9, 1000] [5, 13, 16] cS c0) (fm : fH 15 [73, 74] [44, 45, 58] mS m1) (hat : c0 1000 0 1 = mS 15 0 35) (hfr : fresh = true → ∀ f, 0 ≤ f → f < cS 1 0 9 → mS 67 0 f < P) (hfo : fresh = false → m 15 0 14 = mS 15 0 14)
    (hsk : pSk (m 59 0) (m 15 0 34) (m 15 0 35) = m 15 0 35) (hn : m 15 0 35 < m 15 0 34) (h46 : m 59 0 (m 15 0 35) = 46) :
    qCo N0 cS mS (if 1 ≤ (fn150 [h] c).2.1 then (0, 1, (fn150 [h] c).2.2) else (0, 0, (fn150 [h] c).2.2))
      (zGoo (en49 mS) (if 1 ≤ (fn31 [] m).2.1 then
        (if fresh = false ∧ 0 ≤ (fn45 [P, mS 15 0 18 + mS 15 0 17] (rUp (fn31 [] m).2.2 15 0 35 (m 15 0 35 + 1))).2.1 then .inr (0, 1, rUp (fn31 [] m).2.2 15 0 35 (m 15 0 35 + 1))
        else if mS 15 0 18 + mS 15 0 17 ≠ 400 then
          (let g8 := rUp (rUp (fn31 [] m).2.2 15 0 35 (m 15 0 35 + 1)) 67 0 (mS 15 0 18 + mS 15 0 17) P
           let F := 4 * mS 15 0 18 + 4 * mS 15 0 17
           let v := fun k : Int => if k < g1 15 0 48 then g1 87 0 k else 0
           .inr (0, 1, rUp (rUp (rUp (rUp (rUp g8 68 0 F (v 0)) 68 0 (F + 1) (v 1)) 68 0 (F + 2) (v 2)) 68 0 (F + 3) (v 3)) 15 0 18 (mS 15 0 18 + 1)))
        else .inr (0, 0, (fn8 [g1 15 0 46] (rUp (fn31 [] m).2.2 15 0 35 (m 15 0 35 + 1))).2.2))
      else .inr (0, 0, (fn31 [] m).2.2))) := by
  obtain ⟨hR, hB, hd, ht, ⟨i0, i4⟩, z46, hP, ⟨P0, P1, P2⟩, h7, h16, h73, hh, g48, g87, hy, hw, hD, hE, hne⟩ := hs
  obtain ⟨L, k1, k2, k3, k4⟩ := look_at hR.1 hR.2.1 hsk [] []
  have a0 := hR.2.1.2.1
  have x6 : c 2 0 6 = m 15 0 35 := hR.2.1.1
  have hL : 0 ≤ L := k4.2 hn
  have hL46 : L = 46 := by rw [qL_is k3 (by decide) (by decide), pB_in hn]; exact h46
  obtain ⟨ci1, ci2⟩ := const_iff ht
  have f12 : fH 2 [] [6] c (rUp c 2 0 6 (m 15 0 35 + 1)) := fH_fld fH_refl (by decide)
  have t12 : rUp c 2 0 6 (m 15 0 35 + 1) 2 0 6 = m 15 0 35 + 1 := rUp_at
  have fm12 : fH 15 [] [35] m (rUp m 15 0 35 (m 15 0 35 + 1)) := fH_fld fH_refl (by decide)
  have u12 : rUp m 15 0 35 (m 15 0 35 + 1) 15 0 35 = m 15 0 35 + 1 := rUp_at
  have E148 : fn148 [h] c = if 1 ≤ (fn147 [h] (rUp c 2 0 6 (m 15 0 35 + 1))).2.1 then (0, 1, (fn147 [h] (rUp c 2 0 6 (m 15 0 35 + 1))).2.2) else (0, 0, (fn147 [h] (rUp c 2 0 6 (m 15 0 35 + 1))).2.2) := by
    unfold fn148
    simp only [zLet, List.getD_cons_zero, k1, x6]
    rw [if_pos hL, if_pos hL46]
  have q147 := fn147_eq (g := rUp c 2 0 6 (m 15 0 35 + 1)) (h := h)
  rw [f12.1 10 (by decide) (by decide), f12.1 43 (by decide) (by decide)] at q147
  by_cases hc : ∀ k, 0 ≤ k → k < i → c 43 h k = 0
  · have e147 := q147.1 (ci1.2 hc)
    have e31 := fn31_eq.1 (ci2.2 hc)
    rw [e147] at E148
    rw [if_pos (show (1 : Int) ≤ 1 by decide)] at E148
    simp only at E148
    rw [e31]
    simp only
    rw [if_pos (show (1 : Int) ≤ 1 by decide)]
    have hR12 : qR 0 c0 m1 (rUp c 2 0 6 (m 15 0 35 + 1)) (rUp m 15 0 35 (m 15 0 35 + 1)) := by
      refine qR_up hR (fH_sub f12 (by decide) (by decide)) (fH_sub fm12 (by decide) (by decide)) ?_ ?_ ?_ ?_
      · rw [t12, u12]
      · rw [u12]; omega
      · rw [u12]; omega
      · rw [u12]; omega
    have ht12 : qHt (rUp c 2 0 6 (m 15 0 35 + 1)) (rUp m 15 0 35 (m 15 0 35 + 1)) h i := qHt_up ht f12 (by decide) (by rw [f12.1 10 (by decide) (by decide)]) fm12 (by decide) (by decide)
    have E150 : fn150 [h] c = if pFd (fun f => !qFc (rUp c 2 0 6 (m 15 0 35 + 1)) h f) (rUp c 2 0 6 (m 15 0 35 + 1) 1 0 9) ≥ 0 then (0, 1, rUp c 2 0 6 (m 15 0 35 + 1)) else if rUp c 2 0 6 (m 15 0 35 + 1) 1 0 9 < 400 then (0, 1, rUp (zCpy (rUp (rUp c 2 0 6 (m 15 0 35 + 1)) 19 0 (rUp c 2 0 6 (m 15 0 35 + 1) 1 0 9) (rUp c 2 0 6 (m 15 0 35 + 1) 10 h 8)) 46 h 0 20 0 (4 * rUp c 2 0 6 (m 15 0 35 + 1) 1 0 9) 4) 1 0 9 (rUp c 2 0 6 (m 15 0 35 + 1) 1 0 9 + 1)) else (0, 0, rUp (rUp c 2 0 6 (m 15 0 35 + 1)) 2 0 4 (c 10 h 7)) := by
      unfold fn150
      simp only [zLet, List.getD_cons_zero, E148, fn128_eq, fn109_eq]
      rw [if_pos (show (1 : Int) ≤ 1 by decide)]
      by_cases b1 : pFd (fun f => !qFc (rUp c 2 0 6 (m 15 0 35 + 1)) h f) (rUp c 2 0 6 (m 15 0 35 + 1) 1 0 9) ≥ 0
      · rw [if_pos b1, if_pos b1]
      · rw [if_neg b1, if_neg b1]
        unfold fn129
        simp only [zLet, List.getD_cons_zero]
        by_cases b2 : rUp c 2 0 6 (m 15 0 35 + 1) 1 0 9 < 400
        · rw [if_pos b2, if_pos b2, if_pos (show (1 : Int) ≤ 1 by decide)]
        · rw [if_neg b2, if_neg b2, if_neg (show ¬ (1 : Int) ≤ 0 by decide)]
    have z46_q : ∀ k, i ≤ k → k < 4 → rUp c 2 0 6 (m 15 0 35 + 1) 46 h k = 0 := fun k q1 q2 => by rw [f12.1 46 (by decide) (by decide)]; exact z46 k q1 q2
    have hP_q : rUp c 2 0 6 (m 15 0 35 + 1) 10 h 8 = P := by rw [f12.1 10 (by decide) (by decide)]; exact hP
    have hA_q : rUp m 15 0 35 (m 15 0 35 + 1) 66 0 P = i := by rw [fm12.1 66 (by decide) (by decide)]; exact P2
    have P1_q : P < rUp m 15 0 35 (m 15 0 35 + 1) 15 0 14 := by rw [fm12.2 14 (by decide)]; exact P1
    have hc_q : ∀ k, 0 ≤ k → k < i → rUp c 2 0 6 (m 15 0 35 + 1) 43 h k = 0 := fun k q1 q2 => by rw [f12.1 43 (by decide) (by decide)]; exact hc k q1 q2
    have h7_q : rUp c 2 0 6 (m 15 0 35 + 1) 2 0 7 = 0 := by rw [f12.2 7 (by decide)]; exact h7
    have g87_q : ∀ k, g1 87 0 k = rUp m 15 0 35 (m 15 0 35 + 1) 87 0 k := fun k => by rw [fm12.1 87 (by decide) (by decide)]; exact g87 k
    have hD2 := fD_tr hD (fD_H f12 (by decide))
    have hE2 := fE_tr hE (fE_H fm12 (by decide) (by decide))
    generalize rUp c 2 0 6 (m 15 0 35 + 1) = c2 at *
    generalize rUp m 15 0 35 (m 15 0 35 + 1) = m2 at *
    obtain ⟨kK, kG⟩ := qK_of hK hR12 hN fc0 fm h7_q (by rw [u12]; have := hR.2.2.2.2.2.2.2.2.2.2.1; rw [hat] at this; omega)
    have hsN : sN cS mS → sN c2 m2 := fun z => hR12.2.2.1.2.2.2.2 (sN_0 fc0 fm z)
    have c10 : c2 1 0 10 = cS 1 0 10 := by rw [hR12.2.2.2.2.2.2.1 10 (by decide), fc0.1 1 (by decide) (by decide)]
    have m33 : m2 15 0 33 = mS 15 0 33 := (hR12.2.2.2.2.2.2.2.1.2 33 (by decide)).trans (fm.2 33 (by decide))
    have hF2 : FR c2 m2 (c2 1 0 9) := kK.2.2.2.2.2.2.2.2.2
    have c9 : c2 1 0 9 = cS 1 0 9 := by rw [hR12.2.2.2.2.2.2.1 9 (by decide), fc0.1 1 (by decide) (by decide)]
    have nn : mS 15 0 18 + mS 15 0 17 = c2 1 0 9 := by rw [c9, hK.2.2.2.2.2.2.2.2.1.1]; omega
    have n4 : 4 * mS 15 0 18 + 4 * mS 15 0 17 = 4 * c2 1 0 9 := by omega
    have same := fact_two hF2 kK.2.2.1 kK.2.2.2.1 ht12 i4 hc_q z46_q hP_q hA_q i0
    rw [fn45_eq, nn, n4, g48]
    have hFd : pFd (fun f => !qFc c2 h f) (c2 1 0 9) = pFd (fun f => !qFp m2 P f) (c2 1 0 9) := pFd_congr (fun j q1 q2 => by rw [same j q1 q2])
    have hFn : fresh = true → pFd (fun f => !qFc c2 h f) (c2 1 0 9) = -1 := by
      intro hf
      refine pFd_none (fun j q1 q2 => ?_)
      have r1 := (hF2 j q1 q2).1
      have r2 : m2 67 0 j = mS 67 0 j := by rw [hR12.2.2.2.2.2.2.2.1.1 67 (by decide) (by decide), fm.1 67 (by decide) (by decide)]
      have r3 := hfr hf j q1 (by omega)
      unfold qFc
      rw [decide_eq_false (show ¬ c2 19 0 j = c2 10 h 8 by omega), Bool.false_and]
      rfl
    by_cases hfind : pFd (fun f => !qFc c2 h f) (c2 1 0 9) ≥ 0
    · have hff : fresh = false := by
        cases hq : fresh with
        | false => rfl
        | true =>
          have := hFn hq
          omega
      rw [if_pos hfind] at E150
      rw [E150, if_pos (show fresh = false ∧ 0 ≤ pFd (fun f => !qFp m2 P f) (c2 1 0 9) from ⟨hff, by omega⟩)]
      exact Or.inl ⟨c2, m2, rfl, rfl, kK, kG, ⟨hD2, hE2, hsN⟩, Or.inl ⟨c10, m33, Or.inr ⟨(hR12.2.2.2.2.2.2.2.1.2 18 (by decide)).trans (fm.2 18 (by decide)), (fm12.2 14 (by decide)).trans (hfo hff)⟩⟩⟩
    · rw [if_neg hfind] at E150
      rw [if_neg (show ¬ (fresh = false ∧ 0 ≤ pFd (fun f => !qFp m2 P f) (c2 1 0 9)) from fun z => hfind (by rw [hFd]; exact z.2))]
      have k9 := kK.2.2.2.2.2.2.2.2.1
      by_cases h400 : c2 1 0 9 < 400
      · rw [if_pos h400] at E150
        rw [if_pos (show c2 1 0 9 ≠ 400 by omega), E150]
        generalize hnn : c2 1 0 9 = n at *
        rw [hP_q]
        have hv : ∀ k, (fun k : Int => if k < i then g1 87 0 k else 0) k = if k < i then m2 87 0 k else 0 := fun k => by
          show (if k < i then g1 87 0 k else 0) = _
          rw [g87_q]
        simp only [g87_q]
        have C1 : ∀ G : Nat, G ≠ 19 → G ≠ 20 → G ≠ 1 → rUp (zCpy (rUp c2 19 0 n P) 46 h 0 20 0 (4 * n) 4) 1 0 9 (n + 1) G = c2 G := fun G q1 q2 q3 => by rw [rUp_grp q3, zCpy_grp q2, rUp_grp q1]
        have C19 : ∀ f, rUp (zCpy (rUp c2 19 0 n P) 46 h 0 20 0 (4 * n) 4) 1 0 9 (n + 1) 19 0 f = if f = n then P else c2 19 0 f := fun f => by
          rw [rUp_grp (by decide), zCpy_grp (by decide)]
          by_cases e : f = n
          · rw [if_pos e, e, rUp_at]
          · rw [if_neg e, rUp_ne (fun y => e y.2.2)]
        have C20 : ∀ j, rUp (zCpy (rUp c2 19 0 n P) 46 h 0 20 0 (4 * n) 4) 1 0 9 (n + 1) 20 0 j = if 4 * n ≤ j ∧ j < 4 * n + 4 then c2 46 h (0 + (j - 4 * n)) else c2 20 0 j := fun j => by
          rw [rUp_grp (by decide)]
          by_cases e : 4 * n ≤ j ∧ j < 4 * n + 4
          · rw [if_pos e, zCpy_in e.1 e.2, rUp_grp (by decide)]
          · rw [if_neg e, zCpy_off e, rUp_grp (by decide)]
        have C9 : rUp (zCpy (rUp c2 19 0 n P) 46 h 0 20 0 (4 * n) 4) 1 0 9 (n + 1) 1 0 9 = n + 1 := rUp_at
        have Cj : ∀ j, j ≠ 9 → rUp (zCpy (rUp c2 19 0 n P) 46 h 0 20 0 (4 * n) 4) 1 0 9 (n + 1) 1 0 j = c2 1 0 j := fun j z => by rw [rUp_ne (fun y => z y.2.2), zCpy_grp (by decide), rUp_grp (by decide)]
        generalize rUp (zCpy (rUp c2 19 0 n P) 46 h 0 20 0 (4 * n) 4) 1 0 9 (n + 1) = c3 at *
        generalize hV0 : (if (0 : Int) < i then m2 87 0 0 else 0) = v0
        generalize hV1 : (if (1 : Int) < i then m2 87 0 1 else 0) = v1
        generalize hV2 : (if (2 : Int) < i then m2 87 0 2 else 0) = v2
        generalize hV3 : (if (3 : Int) < i then m2 87 0 3 else 0) = v3
        have fm3 : fH 15 [67, 68] [18] m2 (rUp (rUp (rUp (rUp (rUp (rUp m2 67 0 n P) 68 0 (4 * n) v0) 68 0 (4 * n + 1) v1) 68 0 (4 * n + 2) v2) 68 0 (4 * n + 3) v3) 15 0 18 (mS 15 0 18 + 1)) := fH_fld (fH_grp (fH_grp (fH_grp (fH_grp (fH_grp fH_refl (by decide) (by decide)) (by decide) (by decide)) (by decide) (by decide)) (by decide) (by decide)) (by decide) (by decide)) (by decide)
        have M18 : rUp (rUp (rUp (rUp (rUp (rUp m2 67 0 n P) 68 0 (4 * n) v0) 68 0 (4 * n + 1) v1) 68 0 (4 * n + 2) v2) 68 0 (4 * n + 3) v3) 15 0 18 (mS 15 0 18 + 1) 15 0 18 = mS 15 0 18 + 1 := rUp_at
        have M67 : ∀ f, rUp (rUp (rUp (rUp (rUp (rUp m2 67 0 n P) 68 0 (4 * n) v0) 68 0 (4 * n + 1) v1) 68 0 (4 * n + 2) v2) 68 0 (4 * n + 3) v3) 15 0 18 (mS 15 0 18 + 1) 67 0 f = if f = n then P else m2 67 0 f := fun f => by
          rw [rUp_grp (by decide), rUp_grp (by decide), rUp_grp (by decide), rUp_grp (by decide), rUp_grp (by decide)]
          by_cases e : f = n
          · rw [if_pos e, e, rUp_at]
          · rw [if_neg e, rUp_ne (fun y => e y.2.2)]
        have M68n : ∀ k, 0 ≤ k → k < 4 → rUp (rUp (rUp (rUp (rUp (rUp m2 67 0 n P) 68 0 (4 * n) v0) 68 0 (4 * n + 1) v1) 68 0 (4 * n + 2) v2) 68 0 (4 * n + 3) v3) 15 0 18 (mS 15 0 18 + 1) 68 0 (4 * n + k) = if k < i then m2 87 0 k else 0 := by
          intro k k0 k1
          have : k = 0 ∨ k = 1 ∨ k = 2 ∨ k = 3 := by omega
          rcases this with rfl | rfl | rfl | rfl
          · rw [rUp_grp (by decide), rUp_ne (fun y => by have := y.2.2; omega), rUp_ne (fun y => by have := y.2.2; omega), rUp_ne (fun y => by have := y.2.2; omega), show 4 * n + 0 = 4 * n by omega, rUp_at, hV0]
          · rw [rUp_grp (by decide), rUp_ne (fun y => by have := y.2.2; omega), rUp_ne (fun y => by have := y.2.2; omega), rUp_at, hV1]
          · rw [rUp_grp (by decide), rUp_ne (fun y => by have := y.2.2; omega), rUp_at, hV2]
          · rw [rUp_grp (by decide), rUp_at, hV3]
        have M68o : ∀ j, j < 4 * n → rUp (rUp (rUp (rUp (rUp (rUp m2 67 0 n P) 68 0 (4 * n) v0) 68 0 (4 * n + 1) v1) 68 0 (4 * n + 2) v2) 68 0 (4 * n + 3) v3) 15 0 18 (mS 15 0 18 + 1) 68 0 j = m2 68 0 j := by
          intro j hj
          rw [rUp_grp (by decide), rUp_ne (fun y => by have := y.2.2; omega), rUp_ne (fun y => by have := y.2.2; omega), rUp_ne (fun y => by have := y.2.2; omega), rUp_ne (fun y => by have := y.2.2; omega), rUp_grp (by decide)]
        generalize rUp (rUp (rUp (rUp (rUp (rUp m2 67 0 n P) 68 0 (4 * n) v0) 68 0 (4 * n + 1) v1) 68 0 (4 * n + 2) v2) 68 0 (4 * n + 3) v3) 15 0 18 (mS 15 0 18 + 1) = m3 at *
        have hvr : ∀ a b, vR c2 m2 a b → vR c3 m3 a b := fun a b q => vR_up q (C1 3 (by decide) (by decide) (by decide)) (C1 26 (by decide) (by decide) (by decide)) (fm3.2 8 (by decide)) (fm3.2 9 (by decide)) (fm3.1 61 (by decide) (by decide)) (fm3.1 62 (by decide) (by decide)) (fm3.1 63 (by decide) (by decide))
        have e14 : m3 15 0 14 = m2 15 0 14 := fm3.2 14 (by decide)
        have e66 : m3 66 = m2 66 := fm3.1 66 (by decide) (by decide)
        have fc3 : fH 2 [19, 20, 1] [] c2 c3 := ⟨fun G q1 q2 => C1 G (fun z => q1 (by rw [z]; decide)) (fun z => q1 (by rw [z]; decide)) (fun z => q1 (by rw [z]; decide)), fun j _ => by rw [C1 2 (by decide) (by decide) (by decide)]⟩
        have FRn : FR c3 m3 (n + 1) := by
          intro f q0 q1
          by_cases e : f = n
          · rw [C19, M67, if_pos e, if_pos e, e14, e66, hA_q]
            refine ⟨rfl, ⟨P0, P1_q, i4⟩, fun k w0 w1 => ?_, fun k wz w0 w1 => ?_⟩
            · rw [e, C20, if_pos (by omega), M68n k w0 (by omega), if_pos w1]
              rcases ht12.2.2 k w0 w1 with ⟨r1, r2, r3⟩ | ⟨r1, r2⟩ | ⟨r1, r2⟩
              · rw [show 0 + (k + 4 * n - 4 * n) = k by omega]
                exact hvr _ _ r3
              · have := hc_q k w0 w1; omega
              · have := hc_q k w0 w1; omega
            · rw [e, C20, if_pos (by omega), show 0 + (k + 4 * n - 4 * n) = k by omega]
              exact ⟨z46_q k w0 w1, by rw [M68n k wz w1, if_neg (by omega)]⟩
          · obtain ⟨r1, r2, r3, r4⟩ := hF2 f q0 (by omega)
            rw [C19, M67, if_neg e, if_neg e, e14, e66]
            refine ⟨r1, r2, fun k w0 w1 => ?_, fun k wz w0 w1 => ?_⟩
            · have := r2.2.2
              rw [C20, if_neg (by omega), M68o _ (by omega)]
              exact hvr _ _ (r3 k w0 w1)
            · rw [C20, if_neg (by omega), M68o _ (by omega)]
              exact r4 k wz w0 w1
        obtain ⟨b1, b2, b3, b4, b5, b6, b7, b8, b9, b10⟩ := kK
        refine Or.inl ⟨c3, m3, rfl, rfl, ⟨qT_up b1 (fc3.2 3 (by decide)) (fc3.1 21 (by decide) (by decide)) (fm3.2 34 (by decide)) (fm3.1 59 (by decide) (by decide)), ⟨?_, ?_, ?_⟩, ?_, ?_, qP_up b5 (Cj 7 (by decide)) (fc3.1 16 (by decide) (by decide)) (fc3.1 17 (by decide) (by decide)) e14 (fm3.1 64 (by decide) (by decide)) (fm3.1 65 (by decide) (by decide)) e66, ?_, ⟨b7.1, ?_, ?_⟩, ?_, ⟨?_, ?_, ?_⟩, ?_⟩, ?_, ⟨fD_tr hD2 (fD_H fc3 (by decide)), fE_tr hE2 (fE_H fm3 (by decide) (by decide)), fun z => sN_H (hsN z) fc3 (by decide) fm3 (by decide) (by decide)⟩, Or.inl ⟨by rw [Cj 10 (by decide)]; exact c10, by rw [fm3.2 33 (by decide)]; exact m33, Or.inl M18⟩⟩
        · rw [fc3.2 6 (by decide), fm3.2 35 (by decide)]; exact b2.1
        · rw [fm3.2 35 (by decide)]; exact b2.2.1
        · rw [fm3.2 35 (by decide), fm3.2 34 (by decide)]; exact b2.2.2
        · unfold qNc
          rw [fc3.1 3 (by decide) (by decide), fc3.1 26 (by decide) (by decide)]; exact b3
        · unfold qNm
          rw [fm3.2 8 (by decide), fm3.2 9 (by decide), fm3.1 61 (by decide) (by decide), fm3.1 62 (by decide) (by decide), fm3.1 63 (by decide) (by decide)]; exact b4
        · rw [fc3.2 7 (by decide)]; exact b6
        · rw [fm3.2 34 (by decide)]; exact b7.2.1
        · rw [fc3.1 3 (by decide) (by decide), fm3.2 35 (by decide)]; exact b7.2.2
        · rw [Cj 10 (by decide), fm3.2 32 (by decide), fm3.2 33 (by decide)]; exact b8
        · rw [C9, M18, fm3.2 17 (by decide)]
          have w17 : m2 15 0 17 = mS 15 0 17 := by
            rw [hR12.2.2.2.2.2.2.2.1.2 17 (by decide), fm.2 17 (by decide)]
          rw [w17]; omega
        · rw [C9]; have := b9.2.1; omega
        · rw [C9]; omega
        · rw [C9]; exact FRn
        · obtain ⟨d1, d2, d3, d4, d5, d6, d7, d8, d9, d10⟩ := kG
          refine ⟨gNc_trans d1 (gNc_fl fc3 (by decide) (by decide)), gNm_trans d2 (gNm_fl fm3 (by decide) (by decide) (by decide) (by decide) (by decide)), fH_trans d3 (fH_sub fc3 (by decide) (by decide)), fun j q1 q2 q3 => by rw [Cj j q2]; exact d4 j q1 q2 q3, fH_trans d5 (fH_sub fm3 (by decide) (by decide)), by rw [e14]; exact d6, fun f q => ?_, by rw [M18]; omega, by rw [fm3.2 33 (by decide)]; exact d9, by rw [fm3.2 35 (by decide)]; exact d10⟩
          rw [M67, if_neg (by omega)]
          exact d7 f q
      · rw [if_neg h400] at E150
        rw [if_neg (show ¬ c2 1 0 9 ≠ 400 by omega), E150]
        exact Or.inr ⟨_, _, rfl, rfl, bad_all (qZ_up hR12 (by decide) (fH_fld fH_refl (by decide)) (fH_sub fn8_fr (by decide) (by decide))) hN hK.2.2.2.2.2.2.2.2.2 fc0 fm (fD_tr hD2 (fD_H (L := []) (J := [4]) (fH_fld fH_refl (by decide)) (by decide))) (fE_tr hE2 (fE_H fn8_fr (by decide) (by decide)))⟩
  · obtain ⟨p, e147⟩ := q147.2 (fun z => hc (ci1.1 z))
    obtain ⟨m_q, e31, f31⟩ := fn31_eq.2 (fun z => hc (ci2.1 z))
    rw [e147] at E148
    rw [if_neg (show ¬ (1 : Int) ≤ 0 by decide)] at E148
    simp only at E148
    have E150 : fn150 [h] c = (0, 0, rUp (rUp c 2 0 6 (m 15 0 35 + 1)) 2 0 4 p) := by
      unfold fn150
      simp only [zLet, List.getD_cons_zero, E148]
      rw [if_neg (show ¬ (1 : Int) ≤ 0 by decide)]
    rw [E150, e31]
    simp only
    rw [if_neg (show ¬ (1 : Int) ≤ 0 by decide), if_neg (show ¬ (1 : Int) ≤ 0 by decide)]
    exact Or.inr ⟨_, _, rfl, rfl, bad_all (qZ_up hR (by decide) (fH_fld (fH_fld fH_refl (by decide)) (by decide)) (fH_sub f31 (by decide) (by decide))) hN hK.2.2.2.2.2.2.2.2.2 fc0 fm (fD_tr hD (fD_H (L := []) (J := [4, 6]) (fH_fld (fH_fld fH_refl (by decide)) (by decide)) (by decide))) (fE_tr hE (fE_H f31 (by decide) (by decide)))⟩
