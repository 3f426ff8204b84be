/-! ===== the end of an ATOM ===== -/
/-- what the reference keeps of an ATOM: P its PREDICATE, n0 whether a ! stands ahead, g what it gets -/
noncomputable def qCl (mS : rHp) (n0 gets P : Int) (m : rHp) : rHp :=
  if n0 = 0 then rUp (rUp (rUp (rUp m 77 0 (mS 73 0 (mS 15 0 44) + 8 * mS 15 0 44) 0) 78 0 (mS 73 0 (mS 15 0 44) + 8 * mS 15 0 44) P) 79 0 (mS 73 0 (mS 15 0 44) + 8 * mS 15 0 44) (mS 15 0 45)) 15 0 45 (zF2 .ior (mS 15 0 45) gets)
  else rUp (rUp (rUp m 77 0 (mS 73 0 (mS 15 0 44) + 8 * mS 15 0 44) 1) 78 0 (mS 73 0 (mS 15 0 44) + 8 * mS 15 0 44) P) 79 0 (mS 73 0 (mS 15 0 44) + 8 * mS 15 0 44) (mS 15 0 45)
theorem qCl_fr {mS m : rHp} {n0 gets P : Int} : fH 15 [77, 78, 79] [45] m (qCl mS n0 gets P m) := by
  unfold qCl
  split
  · exact fH_fld (fH_grp (fH_grp (fH_grp fH_refl (by decide) (by decide)) (by decide) (by decide)) (by decide) (by decide)) (by decide)
  · exact fH_grp (fH_grp (fH_grp fH_refl (by decide) (by decide)) (by decide) (by decide)) (by decide) (by decide)
theorem qCl_45 {mS m : rHp} {n0 gets P : Int} : qCl mS n0 gets P m 15 0 45 = if n0 = 0 then zF2 .ior (mS 15 0 45) gets else m 15 0 45 := by
  unfold qCl
  split
  · rw [rUp_at]
  · rw [rUp_grp (by decide), rUp_grp (by decide), rUp_grp (by decide)]
theorem en41_out {mS m : rHp} {n0 gets n : Int} (hsk : pSk (m 59 0) (m 15 0 34) (m 15 0 35) = m 15 0 35) (hA : m 15 0 35 ≤ m 15 0 34) (h : ¬ (m 15 0 35 < m 15 0 34 ∧ m 59 0 (m 15 0 35) = 41)) : en41 mS (0, [n0, 0, gets, n], m) = .inr (0, 0, rUp m 15 0 36 (m 15 0 35)) := by
  have h24 := fn24_eq (x := 41) hsk hA
  rw [if_neg h] at h24
  unfold en41
  simp only [zLet, List.getD_cons_zero, List.getD_cons_succ, ↓reduceIte, h24]
  rw [if_neg (show ¬ (1 : Int) ≤ 0 by decide)]
theorem en41_old {mS m : rHp} {n0 gets n P : Int} (hsk : pSk (m 59 0) (m 15 0 34) (m 15 0 35) = m 15 0 35) (hA : m 15 0 35 ≤ m 15 0 34) (h : m 15 0 35 < m 15 0 34 ∧ m 59 0 (m 15 0 35) = 41) (h21 : fn21 [mS 15 0 37, mS 15 0 38, n] (rUp m 15 0 35 (m 15 0 35 + 1)) = (0, P, rUp m 15 0 35 (m 15 0 35 + 1))) (hP : 0 ≤ P) :
    en41 mS (0, [n0, 0, gets, n], m) = .inr (0, 1, qCl mS n0 gets P (rUp m 15 0 35 (m 15 0 35 + 1))) := by
  have h24 := fn24_eq (x := 41) hsk hA
  rw [if_pos h] at h24
  unfold en41 qCl
  simp only [zLet, List.getD_cons_zero, List.getD_cons_succ, ↓reduceIte, h24, h21]
  rw [if_pos (show (1 : Int) ≤ 1 by decide), if_pos (show P ≥ 0 from hP)]
  by_cases h0 : n0 = 0
  · rw [if_pos h0, if_pos h0]
  · rw [if_neg h0, if_neg h0]
theorem en41_new {mS m m_q : rHp} {n0 gets n P : Int} (hsk : pSk (m 59 0) (m 15 0 34) (m 15 0 35) = m 15 0 35) (hA : m 15 0 35 ≤ m 15 0 34) (h : m 15 0 35 < m 15 0 34 ∧ m 59 0 (m 15 0 35) = 41) (h21 : fn21 [mS 15 0 37, mS 15 0 38, n] (rUp m 15 0 35 (m 15 0 35 + 1)) = (0, -1, rUp m 15 0 35 (m 15 0 35 + 1))) (h20 : mS 15 0 14 ≠ 20) (h39 : fn39 [mS 15 0 37, mS 15 0 38, n] (rUp m 15 0 35 (m 15 0 35 + 1)) = (0, P, m_q)) :
    en41 mS (0, [n0, 0, gets, n], m) = .inr (0, 1, qCl mS n0 gets (mS 15 0 14) m_q) := by
  have h24 := fn24_eq (x := 41) hsk hA
  rw [if_pos h] at h24
  unfold en41 qCl
  simp only [zLet, List.getD_cons_zero, List.getD_cons_succ, ↓reduceIte, h24, h21, h39]
  rw [if_pos (show (1 : Int) ≤ 1 by decide), if_neg (show ¬ (-1 : Int) ≥ 0 by decide), if_pos h20]
  by_cases h0 : n0 = 0
  · rw [if_pos h0, if_pos h0]
  · rw [if_neg h0, if_neg h0]
theorem en41_full {mS m : rHp} {n0 gets n : Int} (hsk : pSk (m 59 0) (m 15 0 34) (m 15 0 35) = m 15 0 35) (hA : m 15 0 35 ≤ m 15 0 34) (h : m 15 0 35 < m 15 0 34 ∧ m 59 0 (m 15 0 35) = 41) (h21 : fn21 [mS 15 0 37, mS 15 0 38, n] (rUp m 15 0 35 (m 15 0 35 + 1)) = (0, -1, rUp m 15 0 35 (m 15 0 35 + 1))) (h20 : mS 15 0 14 = 20) :
    en41 mS (0, [n0, 0, gets, n], m) = .inr (0, 0, (fn8 [mS 15 0 37] (rUp m 15 0 35 (m 15 0 35 + 1))).2.2) := by
  have h24 := fn24_eq (x := 41) hsk hA
  rw [if_pos h] at h24
  unfold en41
  simp only [zLet, List.getD_cons_zero, List.getD_cons_succ, ↓reduceIte, h24, h21]
  rw [if_pos (show (1 : Int) ≤ 1 by decide), if_neg (show ¬ (-1 : Int) ≥ 0 by decide), if_neg (fun q => q h20)]
/-- the class finds the PREDICATE, or adds it, or has no room for it: as the reference -/
theorem close_two {d : Int} {c0 m0 c m : rHp} (hR : qR d c0 m0 c m) (hd : d ≤ 1) {w f s n n0 : Int} (hw : c 10 (qG c) 6 = w) (hz : c 10 (qG c) 5 = n) (hp : c 2 0 7 = 0) (hW : qW pSm (m 59 0) n0 w f s) :
    (∃ P c_q, fn134 [] c = (0, 1, c_q) ∧ fn21 [f, s, n] m = (0, P, m) ∧ 0 ≤ P ∧ qR d c0 m0 c_q m ∧ fH 2 [1, 10, 16, 17] [] c c_q ∧ (∀ h j, ¬ (h = qG c ∧ j = 8) → c_q 10 h j = c 10 h j) ∧ (∀ j, j ≠ 7 → c_q 1 0 j = c 1 0 j) ∧ (c_q 10 (qG c) 8 = P ∧ P < m 15 0 14 ∧ m 66 0 P = n)) ∨
    (∃ c_q m_q, fn134 [] c = (0, 1, c_q) ∧ fn21 [f, s, n] m = (0, -1, m) ∧ m 15 0 14 ≠ 20 ∧ fn39 [f, s, n] m = (0, m 15 0 14, m_q) ∧ qR d c0 m0 c_q m_q ∧ fH 2 [1, 10, 16, 17] [] c c_q ∧ (∀ h j, ¬ (h = qG c ∧ j = 8) → c_q 10 h j = c 10 h j) ∧ (∀ j, j ≠ 7 → c_q 1 0 j = c 1 0 j) ∧ fH 15 [64, 65, 66] [14] m m_q ∧ (c_q 10 (qG c) 8 = m 15 0 14 ∧ 0 ≤ m 15 0 14 ∧ m 15 0 14 < m_q 15 0 14 ∧ m_q 66 0 (m 15 0 14) = n)) ∨
    (∃ c_q, fn134 [] c = (0, 0, c_q) ∧ fn21 [f, s, n] m = (0, -1, m) ∧ m 15 0 14 = 20 ∧ qZ c0 m0 c_q m) := by
  obtain ⟨P, h125, h21, hP⟩ := pred_two (n := n) hR.2.2.2.1 hW
  have hR2 : ∀ v, qR d c0 m0 (rUp c 10 (qG c) 8 v) m := by
    intro v
    refine qR_up hR (fH_grp fH_refl (by decide) (by decide)) fH_refl ?_ (Int.le_refl _) hR.2.1.2.1 hR.2.1.2.2
    rw [rUp_grp (by decide)]; exact hR.2.1.1
  have hcnt := hR.2.2.2.1
  have hG : c 9 (c 40 0 (c 1 0 10)) 2 + 9 * c 40 0 (c 1 0 10) + 1 = qG c := rfl
  rcases hP with hP | hP
  · rw [hP] at h125 h21
    by_cases h20 : m 15 0 14 = 20
    · refine Or.inr (Or.inr ⟨rUp (rUp (rUp c 10 (qG c) 8 (-1)) 10 (qG c) 8 (-1)) 2 0 4 (c 10 (qG c) 7), ?_, h21, h20, ?_⟩)
      · have h126 : ∀ v, fn126 [w, n] (rUp c 10 (qG c) 8 v) = (0, -1, rUp c 10 (qG c) 8 v) := by
          intro v
          unfold fn126
          simp only [zLet, List.getD_cons_zero, List.getD_cons_succ, rUp_grp (show (1 : Nat) ≠ 10 by decide), hcnt.1]
          rw [if_neg (by omega)]
        unfold fn134
        simp only [zLet, hG, hw, hz, hp, h125, h126, fn109_eq]
        rw [if_neg (by decide), if_neg (fun q => q rfl), if_neg (by decide)]
      · exact qZ_up (hR2 (-1)) hd (fH_fld (fH_grp fH_refl (by decide) (by decide)) (by decide)) fH_refl
    · obtain ⟨c_q, m_q, n1, n2, n3, n4, n5, n6, n7, n8, n9⟩ := newpred_R (n := n) (hR2 (-1)) ((hR.2.2.2.2.2.1.2 7 (by decide)).symm.trans hp) hW (by have := hcnt.2.2.1; omega)
      have n2_q : fn39 [f, s, n] m = (0, m 15 0 14, m_q) := n2
      have hge := hcnt.2.1
      refine Or.inr (Or.inl ⟨rUp c_q 10 (qG c) 8 (m 15 0 14), m_q, ?_, h21, h20, n2_q, ?_, ?_, ?_, ?_, n9, rUp_at, hge, by omega, n5⟩)
      · unfold fn134
        simp only [zLet, hG, hw, hz, hp, h125, n1]
        rw [if_neg (by decide), if_neg (fun q => q rfl), if_pos (show m 15 0 14 ≥ 0 from hge)]
      · refine qR_up n3 (fH_grp fH_refl (by decide) (by decide)) fH_refl ?_ (Int.le_refl _) n3.2.1.2.1 n3.2.1.2.2
        rw [rUp_grp (by decide)]; exact n3.2.1.1
      · refine ⟨fun G g1 g2 => ?_, fun j hj => ?_⟩
        · rw [rUp_grp (fun q => g1 (by rw [q]; decide)), n7 G (fun q => g1 (by rw [q]; decide)) (fun q => g1 (by rw [q]; decide)) (fun q => g1 (by rw [q]; decide)), rUp_grp (fun q => g1 (by rw [q]; decide))]
        · rw [rUp_grp (by decide), n7 2 (by decide) (by decide) (by decide), rUp_grp (by decide)]
      · intro h j q
        rw [rUp_ne (fun x => q x.2), n7 10 (by decide) (by decide) (by decide), rUp_ne (fun x => q x.2)]
      · intro j hj
        rw [rUp_grp (by decide), n8 j hj, rUp_grp (by decide)]
  · refine Or.inl ⟨P, rUp c 10 (qG c) 8 P, ?_, h21, hP.1, hR2 P, fH_grp fH_refl (by decide) (by decide), ?_, ?_, rUp_at, hP.2⟩
    · unfold fn134
      simp only [zLet, hG, hw, hz, hp, h125]
      rw [if_pos (show P ≥ 0 from hP.1)]
    · intro h j q
      rw [rUp_ne (fun x => q x.2)]
    · intro j hj
      rw [rUp_grp (by decide)]
