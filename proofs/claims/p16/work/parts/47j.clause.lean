/-! ===== the HEAD's PREDICATE; what a RULE's HEAD owes ===== -/
/-- the PREDICATE of the HEAD when told -/
theorem hpred_two {d : Int} {c0 m0 c m : rHp} (hR : qR d c0 m0 c m) (hd : d ≤ 1) {h w f s n n0 : Int} (hh : h = 9 * c 40 0 (c 1 0 10)) (hw : c 10 h 6 = w) (hz : c 10 h 5 = n) (hp : c 2 0 7 = 0) (hW : qW pSm (m 59 0) n0 w f s) :
    (∃ P c_q, fn133 [] c = (0, 1, c_q) ∧ fn21 [f, s, n] m = (0, P, m) ∧ 0 ≤ P ∧ P < m 15 0 14 ∧ m 66 0 P = n ∧ qR d c0 m0 c_q m ∧ fH 2 [1, 10, 16, 17] [] c c_q ∧ (∀ k j, ¬ (k = h ∧ j = 8) → c_q 10 k j = c 10 k j) ∧ c_q 10 h 8 = P ∧ (∀ j, j ≠ 7 → c_q 1 0 j = c 1 0 j)) ∨
    (∃ c_q m_q, fn133 [] c = (0, 1, c_q) ∧ fn21 [f, s, n] m = (0, -1, m) ∧ m 15 0 14 ≠ 20 ∧ fn39 [f, s, n] m = (0, m 15 0 14, m_q) ∧ m_q 66 0 (m 15 0 14) = n ∧ m_q 15 0 14 = m 15 0 14 + 1 ∧ (∀ p, p ≠ m 15 0 14 → m_q 66 0 p = m 66 0 p) ∧ qR d c0 m0 c_q m_q ∧ fH 2 [1, 10, 16, 17] [] c c_q ∧ (∀ k j, ¬ (k = h ∧ j = 8) → c_q 10 k j = c 10 k j) ∧ c_q 10 h 8 = m 15 0 14 ∧ (∀ j, j ≠ 7 → c_q 1 0 j = c 1 0 j) ∧ fH 15 [64, 65, 66] [14] m m_q) ∨
    (∃ c_q, fn133 [] c = (0, 0, c_q) ∧ fn21 [f, s, n] m = (0, -1, m) ∧ m 15 0 14 = 20 ∧ qZ c0 m0 c_q m) := by
  obtain ⟨P, h125, h21, hP⟩ := pred_two (n := n) hR.2.2.2.1 hW
  have hR2 : ∀ v, qR d c0 m0 (rUp c 10 h 8 v) m := by
    intro v
    refine qR_up hR (fH_grp fH_refl (by decide) (by decide)) fH_refl ?_ (Int.le_refl _) hR.2.1.2.1 hR.2.1.2.2
    rw [rUp_grp (by decide)]; exact hR.2.1.1
  have hcnt := hR.2.2.2.1
  rcases hP with hP | hP
  · rw [hP] at h125 h21
    by_cases h20 : m 15 0 14 = 20
    · refine Or.inr (Or.inr ⟨rUp (rUp (rUp c 10 h 8 (-1)) 10 h 8 (-1)) 2 0 4 (c 10 h 7), ?_, h21, h20, ?_⟩)
      · have h126 : ∀ v, fn126 [w, n] (rUp c 10 h 8 v) = (0, -1, rUp c 10 h 8 v) := by
          intro v
          unfold fn126
          simp only [zLet, List.getD_cons_zero, List.getD_cons_succ, rUp_grp (show (1 : Nat) ≠ 10 by decide), hcnt.1]
          rw [if_neg (by omega)]
        unfold fn133
        simp only [zLet, ← hh, hw, hz, hp, h125, h126, fn109_eq]
        rw [if_neg (by decide), if_neg (fun q => q rfl), if_neg (by decide)]
      · exact qZ_up (hR2 (-1)) hd (fH_fld (fH_grp fH_refl (by decide) (by decide)) (by decide)) fH_refl
    · obtain ⟨c_q, m_q, n1, n2, n3, n4, n5, n6, n7, n8, n9⟩ := newpred_R (n := n) (hR2 (-1)) ((hR.2.2.2.2.2.1.2 7 (by decide)).symm.trans hp) hW (by have := hcnt.2.2.1; omega)
      have n2_q : fn39 [f, s, n] m = (0, m 15 0 14, m_q) := n2
      have hge := hcnt.2.1
      refine Or.inr (Or.inl ⟨rUp c_q 10 h 8 (m 15 0 14), m_q, ?_, h21, h20, n2_q, n5, n4, n6, ?_, ?_, ?_, rUp_at, ?_, n9⟩)
      · unfold fn133
        simp only [zLet, ← hh, hw, hz, hp, h125, n1]
        rw [if_neg (by decide), if_neg (fun q => q rfl), if_pos (show m 15 0 14 ≥ 0 from hge)]
      · refine qR_up n3 (fH_grp fH_refl (by decide) (by decide)) fH_refl ?_ (Int.le_refl _) n3.2.1.2.1 n3.2.1.2.2
        rw [rUp_grp (by decide)]; exact n3.2.1.1
      · refine ⟨fun G g1 g2 => ?_, fun j hj => ?_⟩
        · rw [rUp_grp (fun q => g1 (by rw [q]; decide)), n7 G (fun q => g1 (by rw [q]; decide)) (fun q => g1 (by rw [q]; decide)) (fun q => g1 (by rw [q]; decide)), rUp_grp (fun q => g1 (by rw [q]; decide))]
        · rw [rUp_grp (by decide), n7 2 (by decide) (by decide) (by decide), rUp_grp (by decide)]
      · intro k j q
        rw [rUp_ne (fun x => q x.2), n7 10 (by decide) (by decide) (by decide), rUp_ne (fun x => q x.2)]
      · intro j hj
        rw [rUp_grp (by decide), n8 j hj, rUp_grp (by decide)]
  · refine Or.inl ⟨P, rUp c 10 h 8 P, ?_, h21, hP.1, hP.2.1, hP.2.2, hR2 P, fH_grp fH_refl (by decide) (by decide), ?_, rUp_at, ?_⟩
    · unfold fn133
      simp only [zLet, ← hh, hw, hz, hp, h125]
      rw [if_pos (show P ≥ 0 from hP.1)]
    · intro k j q
      rw [rUp_ne (fun x => q x.2)]
    · intro j hj
      rw [rUp_grp (by decide)]
/-- the reference's loop: the HEAD's VARIABLES are owed -/
theorem en49_skip {mS m : rHp} {n : Int} (hn : n < m 15 0 48) (h : m 85 0 n ≠ 1) : en49 mS (0, [n], m) = .inl (0, [n + 1], m) := by
  unfold en49
  simp only [zLet, List.getD_cons_zero, ↓reduceIte]
  rw [if_neg (show ¬ n ≥ m 15 0 48 by omega), if_pos h]
theorem en49_owe {mS m : rHp} {n : Int} (hn : n < m 15 0 48) (h : m 85 0 n = 1) : en49 mS (0, [n], m) = .inl (0, [n + 1], qOw m (m 86 0 n) (m 87 0 n) 0) := by
  unfold en49
  simp only [zLet, List.getD_cons_zero, ↓reduceIte, fn25_one]
  rw [if_neg (show ¬ n ≥ m 15 0 48 by omega), if_neg (fun z => z h)]
theorem owe_loop {mS c m9 : rHp} {h i : Int} (hv : ∀ k, 0 ≤ k → k < i → m9 85 0 k = 1 → qVr (m9 87 0 k) ∧ m9 87 0 k < m9 74 0 (m9 15 0 44)) (h48 : m9 15 0 48 = i) :
    ∀ (x : Nat) (n : Int) (H : Int → Prop) (m : rHp), n + x = i → 0 ≤ n → qB H c m → fH 15 [88, 89, 90, 91] [58] m9 m →
    ∃ H_q m_q, zLoop (en49 mS) (0, [n], m) = zLoop (en49 mS) (0, [i], m_q) ∧ qB H_q c m_q ∧ fH 15 [88, 89, 90, 91] [58] m9 m_q ∧ ∀ u, H_q u ↔ (H u ∨ ∃ k, n ≤ k ∧ k < i ∧ m9 85 0 k = 1 ∧ m9 87 0 k = u) := by
  intro x
  induction x with
  | zero =>
    intro n H m hn h0 hB hf
    have : n = i := by omega
    subst this
    exact ⟨H, m, rfl, hB, hf, fun u => ⟨Or.inl, fun z => z.elim id (fun ⟨k, k0, k1, _⟩ => by omega)⟩⟩
  | succ x ih =>
    intro n H m hn h0 hB hf
    have e48 : m 15 0 48 = i := (hf.2 48 (by decide)).trans h48
    have e85 : m 85 = m9 85 := hf.1 85 (by decide) (by decide)
    have e87 : m 87 = m9 87 := hf.1 87 (by decide) (by decide)
    by_cases hb : m 85 0 n = 1
    · have hb9 : m9 85 0 n = 1 := by rw [← e85]; exact hb
      obtain ⟨v1, v2⟩ := hv n h0 (by omega) hb9
      have fo := qOw_fr (m := m) (p := m 86 0 n) (v := m 87 0 n) (t := 0)
      have c74 : m 74 0 (m 15 0 44) = m9 74 0 (m9 15 0 44) := by rw [hf.1 74 (by decide) (by decide), hf.2 44 (by decide)]
      have hB2 : qB (fun u => H u ∨ (0 : Int) = 0 ∧ m 87 0 n = u) c (qOw m (m 86 0 n) (m 87 0 n) 0) := by
        obtain ⟨z1, z2, z3, z4, z5⟩ := hB
        have co : qOw m (m 86 0 n) (m 87 0 n) 0 74 0 (qOw m (m 86 0 n) (m 87 0 n) 0 15 0 44) = m 74 0 (m 15 0 44) := by rw [fo.1 74 (by decide) (by decide), fo.2 44 (by decide)]
        refine ⟨qS_up z1 (fo.2 44 (by decide)) (fo.1 74 (by decide) (by decide)) (fo.1 84 (by decide) (by decide)) (by rw [fo.2 35 (by decide)]; exact Int.le_refl _), qO_kn_q z2 (by rw [e87]; exact v1) (by rw [e87, c74]; exact v2) (Or.inl rfl), ?_, z4, ?_⟩
        · rw [fo.2 45 (by decide)]; exact z3
        · rw [co]; exact z5
      obtain ⟨H_q, m_q, a1, a2, a3, a4⟩ := ih (n + 1) _ _ (by omega) (by omega) hB2 (fH_trans hf (fH_sub fo (by decide) (by decide)))
      refine ⟨H_q, m_q, (zLoop_inl (en49_owe (by omega) hb)).trans a1, a2, a3, fun u => (a4 u).trans ⟨?_, ?_⟩⟩
      · rintro ((z | z) | ⟨k, k0, k1, k2, k3⟩)
        · exact Or.inl z
        · exact Or.inr ⟨n, Int.le_refl _, by omega, hb9, by rw [← e87]; exact z.2⟩
        · exact Or.inr ⟨k, by omega, k1, k2, k3⟩
      · rintro (z | ⟨k, k0, k1, k2, k3⟩)
        · exact Or.inl (Or.inl z)
        · by_cases e : k = n
          · rw [e] at k3
            exact Or.inl (Or.inr ⟨rfl, by rw [e87]; exact k3⟩)
          · exact Or.inr ⟨k, by omega, k1, k2, k3⟩
    · obtain ⟨H_q, m_q, a1, a2, a3, a4⟩ := ih (n + 1) H m (by omega) (by omega) hB hf
      refine ⟨H_q, m_q, (zLoop_inl (en49_skip (by omega) hb)).trans a1, a2, a3, fun u => (a4 u).trans ⟨?_, ?_⟩⟩
      · rintro (z | ⟨k, k0, k1, k2, k3⟩)
        · exact Or.inl z
        · exact Or.inr ⟨k, by omega, k1, k2, k3⟩
      · rintro (z | ⟨k, k0, k1, k2, k3⟩)
        · exact Or.inl z
        · by_cases e : k = n
          · rw [e, ← e85] at k2
            exact absurd k2 hb
          · exact Or.inr ⟨k, by omega, k1, k2, k3⟩
/-- what is owed in the end is what the class wants KNOWN -/
theorem owed_hd {H H_q : Int → Prop} {c m : rHp} {h i : Int} (hs : qHs H c m h i) (h4 : ∀ u, H_q u ↔ (H u ∨ ∃ k, 0 ≤ k ∧ k < i ∧ m 85 0 k = 1 ∧ m 87 0 k = u)) : qHd H_q c h := by
  obtain ⟨s1, s2, s3, s4, s5, s6, s7, s8, s9, s10⟩ := hs
  intro u
  rw [h4 u, s8 u, s3]
  constructor
  · rintro (⟨z1, z2⟩ | ⟨k, k0, k1, k2, k3⟩)
    · obtain ⟨k, k0, k1, k2⟩ := s9.2 (by omega)
      exact ⟨k, k0, k1, Or.inr ⟨k2, by omega, z2⟩⟩
    · rcases s7 k k0 k1 with ⟨q1, q2, q3⟩ | ⟨q1, q2, q3, q4⟩ | ⟨q1, q2⟩
      · omega
      · exact ⟨k, k0, k1, Or.inl ⟨q1, by rw [q3]; exact k3⟩⟩
      · omega
  · rintro ⟨k, k0, k1, ⟨z1, z2⟩ | ⟨z1, z2, z3⟩⟩
    · rcases s7 k k0 k1 with ⟨q1, q2, q3⟩ | ⟨q1, q2, q3, q4⟩ | ⟨q1, q2⟩
      · omega
      · exact Or.inr ⟨k, k0, k1, q2, by rw [← q3]; exact z2⟩
      · omega
    · have := s9.1 ⟨k, k0, k1, z1⟩
      exact Or.inl ⟨by omega, z3⟩
/-- what holds between CLAUSES of a text that is told -/
noncomputable def qK (N0 : Int) (c m : rHp) : Prop := qT c m ∧ qA c m ∧ qNc c ∧ qNm m ∧ qP c m ∧ c 2 0 7 = 0 ∧ (0 ≤ N0 ∧ 2 * N0 + m 15 0 34 ≤ 10239 ∧ 2 * c 3 0 1 ≤ 2 * N0 + m 15 0 35) ∧ (c 1 0 10 = m 15 0 32 + m 15 0 33 ∧ 0 ≤ c 1 0 10 ∧ c 1 0 10 ≤ 60) ∧ (c 1 0 9 = m 15 0 17 + m 15 0 18 ∧ 0 ≤ c 1 0 9 ∧ c 1 0 9 ≤ 400) ∧ FR c m (c 1 0 9)
/-- a CLAUSE begins: the class_q cells, the reference's, and what they are held against -/
theorem clause_pre {N0 : Int} {c m : rHp} (hK : qK N0 c m) :
    ∃ c0 c1 m1, rUp (rUp (fn110 [] c).2.2 9 (c 40 0 (c 1 0 10)) 2 0) 9 (c 40 0 (c 1 0 10)) 3 0 = c1 ∧ (fn47 [m 15 0 33 + m 15 0 32] m).2.2 = m1 ∧ qR 0 c0 m1 c1 m1 ∧ qB (fun _ => False) c1 m1 ∧ c0 1000 0 0 = N0 ∧ c0 1000 0 1 = m 15 0 35 ∧ fH 2 [9] [5, 13, 16] c c1 ∧ fH 15 [73, 74] [44, 45, 58] m m1 ∧ m1 73 0 (m1 15 0 44) = 0 ∧ (∀ j, c0 1 0 j = c 1 0 j) ∧ c0 40 = c 40 ∧ c1 2 0 16 = 0 ∧ gNc c0 c1 ∧ c0 3 = c 3 ∧ c0 26 = c 26 ∧ c0 19 = c 19 ∧ c0 20 = c 20 ∧ fH 2 [9, 1000] [5, 13, 16] c c0 ∧ fD (c 40 0 (c 1 0 10)) c c1 ∧ fE (m 15 0 33 + m 15 0 32) m m1 ∧ m1 15 0 44 = m 15 0 33 + m 15 0 32 ∧ m1 15 0 45 = 0 := by
  obtain ⟨k1, k2, k3, k4, k5, k6, k7, k8, k9, k10⟩ := hK
  have fc : fH 2 [9] [5, 13, 16] c (rUp (rUp (rUp (rUp (rUp c 2 0 13 0) 2 0 16 0) 2 0 5 0) 9 (c 40 0 (c 1 0 10)) 2 0) 9 (c 40 0 (c 1 0 10)) 3 0) := fH_grp (fH_grp (fH_fld (fH_fld (fH_fld fH_refl (by decide)) (by decide)) (by decide)) (by decide) (by decide)) (by decide) (by decide)
  have x13 : rUp (rUp (rUp (rUp (rUp c 2 0 13 0) 2 0 16 0) 2 0 5 0) 9 (c 40 0 (c 1 0 10)) 2 0) 9 (c 40 0 (c 1 0 10)) 3 0 2 0 13 = 0 := by rw [rUp_grp (by decide), rUp_grp (by decide), rUp_ne (by decide), rUp_ne (by decide), rUp_at]
  have x16 : rUp (rUp (rUp (rUp (rUp c 2 0 13 0) 2 0 16 0) 2 0 5 0) 9 (c 40 0 (c 1 0 10)) 2 0) 9 (c 40 0 (c 1 0 10)) 3 0 2 0 16 = 0 := by rw [rUp_grp (by decide), rUp_grp (by decide), rUp_ne (by decide), rUp_at]
  have x5 : rUp (rUp (rUp (rUp (rUp c 2 0 13 0) 2 0 16 0) 2 0 5 0) 9 (c 40 0 (c 1 0 10)) 2 0) 9 (c 40 0 (c 1 0 10)) 3 0 2 0 5 = 0 := by rw [rUp_grp (by decide), rUp_grp (by decide), rUp_at]
  have fdc : fD (c 40 0 (c 1 0 10)) c (rUp (rUp (rUp (rUp (rUp c 2 0 13 0) 2 0 16 0) 2 0 5 0) 9 (c 40 0 (c 1 0 10)) 2 0) 9 (c 40 0 (c 1 0 10)) 3 0) := by
    refine ⟨fc.1 40 (by decide) (by decide), fun x z => ?_, fun K x z _ => by rw [fc.1 K (by rcases z with rfl | rfl | rfl | rfl | rfl <;> decide) (by omega)]⟩
    funext y
    rw [rUp_ne (fun w => z w.2.1), rUp_ne (fun w => z w.2.1), rUp_grp (by decide), rUp_grp (by decide), rUp_grp (by decide)]
  generalize hr : m 15 0 33 + m 15 0 32 = r
  have fm : fH 15 [73, 74] [44, 45, 58] m (rUp (rUp (rUp (rUp (rUp m 15 0 44 r) 73 0 r 0) 74 0 r 0) 15 0 45 0) 15 0 58 0) := fH_fld (fH_fld (fH_grp (fH_grp (fH_fld fH_refl (by decide)) (by decide) (by decide)) (by decide) (by decide)) (by decide)) (by decide)
  have fde : fE r m (rUp (rUp (rUp (rUp (rUp m 15 0 44 r) 73 0 r 0) 74 0 r 0) 15 0 45 0) 15 0 58 0) := by
    refine ⟨fun K x z1 z2 => ?_, fun K x z1 _ => ?_, fun K x z1 _ => ?_, fun K x z1 _ => ?_, ?_, fun p _ => ?_⟩
    · rw [rUp_grp (by omega), rUp_grp (by omega), rUp_grp (by omega), rUp_ne (fun w => by have := w.2.2; omega), rUp_grp (by omega)]
    · rw [fm.1 K (by rcases z1 with rfl | rfl <;> decide) (by omega)]
    · rw [fm.1 K (by rcases z1 with rfl | rfl | rfl <;> decide) (by omega)]
    · rw [fm.1 K (by rcases z1 with rfl | rfl <;> decide) (by omega)]
    · rw [fm.2 14 (by decide)]; exact Int.le_refl _
    · rw [fm.1 66 (by decide) (by decide)]
  have y44 : rUp (rUp (rUp (rUp (rUp m 15 0 44 r) 73 0 r 0) 74 0 r 0) 15 0 45 0) 15 0 58 0 15 0 44 = r := by rw [rUp_ne (by decide), rUp_ne (by decide), rUp_grp (by decide), rUp_grp (by decide), rUp_at]
  have y45 : rUp (rUp (rUp (rUp (rUp m 15 0 44 r) 73 0 r 0) 74 0 r 0) 15 0 45 0) 15 0 58 0 15 0 45 = 0 := by rw [rUp_ne (by decide), rUp_at]
  have y58 : rUp (rUp (rUp (rUp (rUp m 15 0 44 r) 73 0 r 0) 74 0 r 0) 15 0 45 0) 15 0 58 0 15 0 58 = 0 := rUp_at
  have y73 : rUp (rUp (rUp (rUp (rUp m 15 0 44 r) 73 0 r 0) 74 0 r 0) 15 0 45 0) 15 0 58 0 73 0 r = 0 := by rw [rUp_grp (by decide), rUp_grp (by decide), rUp_grp (by decide), rUp_at]
  have y74 : rUp (rUp (rUp (rUp (rUp m 15 0 44 r) 73 0 r 0) 74 0 r 0) 15 0 45 0) 15 0 58 0 74 0 r = 0 := by rw [rUp_grp (by decide), rUp_grp (by decide), rUp_at]
  have e1 : rUp (rUp (fn110 [] c).2.2 9 (c 40 0 (c 1 0 10)) 2 0) 9 (c 40 0 (c 1 0 10)) 3 0 = rUp (rUp (rUp (rUp (rUp c 2 0 13 0) 2 0 16 0) 2 0 5 0) 9 (c 40 0 (c 1 0 10)) 2 0) 9 (c 40 0 (c 1 0 10)) 3 0 := rfl
  have e2 : (fn47 [r] m).2.2 = rUp (rUp (rUp (rUp (rUp m 15 0 44 r) 73 0 r 0) 74 0 r 0) 15 0 45 0) 15 0 58 0 := rfl
  rw [e1, e2]
  generalize rUp (rUp (rUp (rUp (rUp c 2 0 13 0) 2 0 16 0) 2 0 5 0) 9 (c 40 0 (c 1 0 10)) 2 0) 9 (c 40 0 (c 1 0 10)) 3 0 = c1 at *
  generalize rUp (rUp (rUp (rUp (rUp m 15 0 44 r) 73 0 r 0) 74 0 r 0) 15 0 45 0) 15 0 58 0 = m1 at *
  have f0 : fH 2 [1000] [] (rUp (rUp c1 1000 0 0 N0) 1000 0 1 (m 15 0 35)) c1 := fH_symm (fH_grp (fH_grp fH_refl (by decide) (by decide)) (by decide) (by decide))
  have g0 : ∀ G : Nat, G ≠ 1000 → rUp (rUp c1 1000 0 0 N0) 1000 0 1 (m 15 0 35) G = c1 G := fun G z => by rw [rUp_grp z, rUp_grp z]
  have n0 : rUp (rUp c1 1000 0 0 N0) 1000 0 1 (m 15 0 35) 1000 0 0 = N0 := by rw [rUp_ne (by decide), rUp_at]
  have n1 : rUp (rUp c1 1000 0 0 N0) 1000 0 1 (m 15 0 35) 1000 0 1 = m 15 0 35 := rUp_at
  have s34 : m1 15 0 34 = m 15 0 34 := fm.2 34 (by decide)
  have s35 : m1 15 0 35 = m 15 0 35 := fm.2 35 (by decide)
  have cnt0 : m1 74 0 (m1 15 0 44) = 0 := by rw [y44, y74]
  have gc : gNc (rUp (rUp c1 1000 0 0 N0) 1000 0 1 (m 15 0 35)) c1 := gNc_fl f0 (by decide) (by decide)
  refine ⟨rUp (rUp c1 1000 0 0 N0) 1000 0 1 (m 15 0 35), c1, m1, rfl, rfl, ⟨qT_up k1 (fc.2 3 (by decide)) (fc.1 21 (by decide) (by decide)) s34 (fm.1 59 (by decide) (by decide)), ⟨?_, ?_, ?_⟩, ⟨?_, ?_, gc, gNm_refl, fun z => by unfold sN at z ⊢; rw [rUp_grp (by decide), rUp_grp (by decide), rUp_grp (by decide), rUp_grp (by decide)] at z; exact z⟩, ?_, ?_, fH_sub f0 (by decide) (by decide), fun j _ => by rw [g0 1 (by decide)], fH_refl, ⟨Int.le_refl _, fun _ _ => rfl⟩, ?_⟩, ?_, n0, n1, fc, fm, by rw [y44, y73], fun j => by rw [g0 1 (by decide), fc.1 1 (by decide) (by decide)], by rw [g0 40 (by decide), fc.1 40 (by decide) (by decide)], x16, gc, by rw [g0 3 (by decide), fc.1 3 (by decide) (by decide)], by rw [g0 26 (by decide), fc.1 26 (by decide) (by decide)], by rw [g0 19 (by decide), fc.1 19 (by decide) (by decide)], by rw [g0 20 (by decide), fc.1 20 (by decide) (by decide)], fH_trans (fH_sub fc (by decide) (by decide)) (fH_sub (fH_symm f0) (by decide) (by decide)), fdc, fde, y44, y45⟩
  · rw [fc.2 6 (by decide), s35]; exact k2.1
  · rw [s35]; exact k2.2.1
  · rw [s35, s34]; exact k2.2.2
  · unfold qNc
    rw [fc.1 3 (by decide) (by decide), fc.1 26 (by decide) (by decide)]; exact k3
  · unfold qNm
    rw [fm.2 8 (by decide), fm.2 9 (by decide), fm.1 61 (by decide) (by decide), fm.1 62 (by decide) (by decide), fm.1 63 (by decide) (by decide)]; exact k4
  · exact qP_up k5 (by rw [fc.1 1 (by decide) (by decide)]) (fc.1 16 (by decide) (by decide)) (fc.1 17 (by decide) (by decide)) (fm.2 14 (by decide)) (fm.1 64 (by decide) (by decide)) (fm.1 65 (by decide) (by decide)) (fm.1 66 (by decide) (by decide))
  · refine ⟨by rw [x13, cnt0], by rw [cnt0]; decide, by rw [cnt0]; decide, fun v v0 v1 => ?_⟩
    rw [cnt0] at v1
    omega
  · rw [n0, n1, fc.1 3 (by decide) (by decide), s35]
    have := k7.2.2
    exact ⟨by omega, by omega, Or.inr ⟨rfl, (g0 1 (by decide)).symm, (g0 16 (by decide)).symm, (g0 17 (by decide)).symm, rfl, rfl, rfl⟩⟩
  · refine ⟨fun v v0 v1 => ?_, ⟨by rw [x16]; decide, by rw [y58]; decide, fun i i0 i1 => ?_, fun k k0 k1 => ?_, fun u => ⟨?_, ?_⟩, fun u => ⟨?_, fun z => z.elim⟩⟩, by rw [x5, y45], by rw [x5]; exact ⟨by decide, by decide⟩, fun v v0 v1 => ?_⟩
    · rw [cnt0] at v1
      omega
    · rw [x16] at i1
      omega
    · rw [y58] at k1
      omega
    · rintro ⟨i, i0, i1, _⟩
      rw [x16] at i1
      omega
    · rintro ⟨k, k0, k1, _⟩
      rw [y58] at k1
      omega
    · rintro ⟨k, k0, k1, _⟩
      rw [y58] at k1
      omega
    · rw [cnt0] at v0
      rw [x5, qBt_zero ⟨v0, v1⟩]
      decide
