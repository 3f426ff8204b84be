/-! ===== VARIABLES by both ===== -/
/-- a VARIABLE whose capital is at hand: both meet it, or both find it too long, or both find it one too many -/
theorem var_R {c0 m0 c m : rHp} (hR : qR 0 c0 m0 c m) (hn : m 15 0 35 < m 15 0 34) (hca : pCa (m 59 0 (m 15 0 35)) = true) (x y : List Int) :
    (∃ w c2 v c3 m_q, fn115 x c = (0, 1, c2) ∧ c2 2 0 8 = w ∧ c2 2 0 9 = m 15 0 35 ∧ fH 2 [] [6, 8, 9] c c2 ∧ fn120 [w] c2 = (0, v, c3) ∧ fn17 y m = (0, 1, m_q) ∧ 0 ≤ v ∧ v < 8 ∧ v < m_q 74 0 (m_q 15 0 44) ∧
      (m_q 74 0 (m_q 15 0 44) = m 74 0 (m 15 0 44) ∨ m_q 74 0 (m_q 15 0 44) = m 74 0 (m 15 0 44) + 1 ∧ v = m 74 0 (m 15 0 44)) ∧ qR 0 c0 m0 c3 m_q ∧ m_q 15 0 39 = v ∧ m_q 15 0 40 = 1 ∧ fH 2 [22, 23] [6, 8, 9, 13] c c3 ∧ fH 15 [74, 82, 83, 84] [35, 37, 38, 39, 40] m m_q ∧ m 15 0 35 < m_q 15 0 35 ∧ c3 2 0 9 = m 15 0 35 ∧ c3 2 0 8 = w) ∨
    (∃ c2 m_q, fn115 x c = (0, 0, c2) ∧ fn17 y m = (0, 0, m_q) ∧ qZ c0 m0 c2 m_q) ∨
    (∃ w c2 m_q, fn115 x c = (0, 1, c2) ∧ c2 2 0 8 = w ∧ c2 2 0 9 = m 15 0 35 ∧ fH 2 [] [6, 8, 9] c c2 ∧ fn120 [w] c2 = (0, -1, c2) ∧ fn17 y m = (0, 0, m_q) ∧ qZ c0 m0 c2 m_q) := by
  have hT := hR.1
  have hA := hR.2.1
  have hA2 := hA.2.1
  rcases word_two hT hA hn hca x [] with ⟨e, w, w1, w2, w3, w4, w5⟩ | ⟨e, w, w1, w2⟩
  · have fc : fH 2 [] [6, 8, 9] c (rUp (rUp (rUp c 2 0 9 (m 15 0 35)) 2 0 8 w) 2 0 6 e) := fH_fld (fH_fld (fH_fld fH_refl (by decide)) (by decide)) (by decide)
    have fm : fH 15 [] [35, 37, 38] m (rUp (rUp (rUp m 15 0 37 (m 15 0 35)) 15 0 38 (e - m 15 0 35)) 15 0 35 e) := fH_fld (fH_fld (fH_fld fH_refl (by decide)) (by decide)) (by decide)
    have hR2 : qR 0 c0 m0 (rUp (rUp (rUp c 2 0 9 (m 15 0 35)) 2 0 8 w) 2 0 6 e) (rUp (rUp (rUp m 15 0 37 (m 15 0 35)) 15 0 38 (e - m 15 0 35)) 15 0 35 e) := by
      refine qR_up hR (fH_sub fc (by decide) (by decide)) (fH_sub fm (by decide) (by decide)) ?_ ?_ ?_ ?_
      · rw [rUp_at, rUp_at]
      · rw [rUp_at]; omega
      · rw [rUp_at]; omega
      · rw [rUp_at]; exact w4
    have x8 : rUp (rUp (rUp c 2 0 9 (m 15 0 35)) 2 0 8 w) 2 0 6 e 2 0 8 = w := by rw [rUp_ne (by decide), rUp_at]
    have x9 : rUp (rUp (rUp c 2 0 9 (m 15 0 35)) 2 0 8 w) 2 0 6 e 2 0 9 = m 15 0 35 := by rw [rUp_ne (by decide), rUp_ne (by decide), rUp_at]
    have y35 : rUp (rUp (rUp m 15 0 37 (m 15 0 35)) 15 0 38 (e - m 15 0 35)) 15 0 35 e 15 0 35 = e := rUp_at
    have y37 : rUp (rUp (rUp m 15 0 37 (m 15 0 35)) 15 0 38 (e - m 15 0 35)) 15 0 35 e 15 0 37 = m 15 0 35 := by rw [rUp_ne (by decide), rUp_ne (by decide), rUp_at]
    have y38 : rUp (rUp (rUp m 15 0 37 (m 15 0 35)) 15 0 38 (e - m 15 0 35)) 15 0 35 e 15 0 38 = e - m 15 0 35 := by rw [rUp_ne (by decide), rUp_at]
    generalize rUp (rUp (rUp c 2 0 9 (m 15 0 35)) 2 0 8 w) 2 0 6 e = c2 at *
    generalize rUp (rUp (rUp m 15 0 37 (m 15 0 35)) 15 0 38 (e - m 15 0 35)) 15 0 35 e = m2 at *
    have g34 : m2 15 0 34 = m 15 0 34 := fm.2 34 (by decide)
    have g59 : m2 59 = m 59 := fm.1 59 (by decide) (by decide)
    have g74 : m2 74 = m 74 := fm.1 74 (by decide) (by decide)
    have g44 : m2 15 0 44 = m 15 0 44 := fm.2 44 (by decide)
    obtain ⟨a1, a2, a3, a4, a5, a6, a7, a8, a9, a10⟩ := hR2
    rcases var_two w2 y37 g74 (fm.1 84 (by decide) (by decide)) g44 (by omega) a5 (w := w) (by rw [g59, g34, y37, y38]; exact w5) y with ⟨v, c3, m_q, h1, h2, h3, h4, h5, h6, h7, h8, h9, h10, h11⟩ | ⟨h1, h2⟩
    · have k : ∀ G, G ∉ [74, 82, 83, 84] → G ≠ 15 → m_q G = m2 G := h11.1
      have e34 : m_q 15 0 34 = m2 15 0 34 := h11.2 34 (by decide)
      have e35 : m_q 15 0 35 = m2 15 0 35 := h11.2 35 (by decide)
      have h11_q : fH 15 [74, 82, 83, 84] [39, 40] m2 m_q := h11
      have h9_q : fH 2 [22, 23] [13] c2 c3 := ⟨fun G g1 g2 => h9 G (fun q => g1 (by rw [q]; decide)) (fun q => g1 (by rw [q]; decide)) g2, fun j hj => h10 j (fun q => hj (by rw [q]; decide))⟩
      have hv8 := h5.2.2.1
      refine Or.inl ⟨w, c2, v, c3, m_q, w1, x8, x9, fc, h1, h2, h3, by omega, h4, h6.imp (fun q => q.1) id, ⟨?_, ?_, ?_, ?_, h5, ?_, ?_, ?_, ?_, ?_⟩, h7, h8, ?_, ?_, ?_, ?_, ?_⟩
      · exact qT_up a1 (h10 3 (by decide)) (h9 21 (by decide) (by decide) (by decide)) e34 (k 59 (by decide) (by decide))
      · refine ⟨?_, ?_, ?_⟩
        · rw [h10 6 (by decide), e35]; exact a2.1
        · rw [e35]; exact a2.2.1
        · rw [e35, e34]; exact a2.2.2
      · exact qN_up a3 (h9 3 (by decide) (by decide) (by decide)) (h9 26 (by decide) (by decide) (by decide)) (h11.2 8 (by decide)) (h11.2 9 (by decide)) (k 61 (by decide) (by decide)) (k 62 (by decide) (by decide)) (k 63 (by decide) (by decide))
      · exact qP_up a4 (by rw [h9 1 (by decide) (by decide) (by decide)]) (h9 16 (by decide) (by decide) (by decide)) (h9 17 (by decide) (by decide) (by decide)) (h11.2 14 (by decide)) (k 64 (by decide) (by decide)) (k 65 (by decide) (by decide)) (k 66 (by decide) (by decide))
      · exact fH_trans a6 (fH_sub h9_q (by decide) (by decide))
      · intro j hj
        rw [h9 1 (by decide) (by decide) (by decide)]
        exact a7 j hj
      · exact fH_trans a8 (fH_sub h11_q (by decide) (by decide))
      · refine ⟨?_, fun p hp => ?_⟩
        · rw [h11.2 14 (by decide)]; exact a9.1
        · rw [k 66 (by decide) (by decide)]; exact a9.2 p hp
      · rw [h9 3 (by decide) (by decide) (by decide), e35]
        exact ⟨a10.1, a10.2.1, pU_up a10.2.2 (h11.2 14 (by decide)) (h9 1 (by decide) (by decide) (by decide)) (h9 16 (by decide) (by decide) (by decide)) (h9 17 (by decide) (by decide) (by decide)) (k 64 (by decide) (by decide)) (k 65 (by decide) (by decide)) (k 66 (by decide) (by decide))⟩
      · exact fH_trans (fH_sub fc (by decide) (by decide)) (fH_sub h9_q (by decide) (by decide))
      · exact fH_trans (fH_sub fm (by decide) (by decide)) (fH_sub h11_q (by decide) (by decide))
      · rw [e35, y35]; exact w3
      · rw [h10 9 (by decide)]; exact x9
      · rw [h10 8 (by decide)]; exact x8
    · exact Or.inr (Or.inr ⟨w, c2, _, w1, x8, x9, fc, h1, h2, qZ_up ⟨a1, a2, a3, a4, a5, a6, a7, a8, a9, a10⟩ (by decide) fH_refl (fH_fld fH_refl (by decide))⟩)
  · refine Or.inr (Or.inl ⟨_, _, w1, fn17_no w2 y, ?_⟩)
    exact qZ_up hR (by decide) (fH_fld (fH_fld (fH_fld (fH_fld fH_refl (by decide)) (by decide)) (by decide)) (by decide)) (fH_fld (fH_fld (fH_fld fH_refl (by decide)) (by decide)) (by decide))
/-- the reference's item at a capital -/
theorem item_var {m : rHp} {any b : Int} {m_q : rHp} (hsk : pSk (m 59 0) (m 15 0 34) (m 15 0 35) = m 15 0 35) (hn : m 15 0 35 < m 15 0 34) (hca : pCa (m 59 0 (m 15 0 35)) = true) (h : fn17 [] m = (0, b, m_q)) (hb : b = 0 ∨ b = 1) : fn20 [any] m = (0, b, m_q) := by
  have f6 : fn6 [m 15 0 35] m = (0, m 59 0 (m 15 0 35), m) := by rw [fn6_eq, pB_in hn]
  have f7 : fn7 [] m = (0, 0, m) := by rw [fn7_eq, hsk, rUp_self rfl]
  unfold fn20
  simp only [zLet, List.getD_cons_zero, f7, f6, fn10_eq, pBit_ge, hca, h]
  rw [if_pos (show (0 : Int) ≤ -m 15 0 35 + m 15 0 34 + -1 by omega), if_pos trivial]
  rcases hb with hb | hb
  · rw [hb, if_neg (by decide)]
  · rw [hb, if_pos (by decide)]
/-- the reference's item at an _ -/
theorem item_any {m : rHp} (hsk : pSk (m 59 0) (m 15 0 34) (m 15 0 35) = m 15 0 35) (hn : m 15 0 35 < m 15 0 34) (hb : m 59 0 (m 15 0 35) = 95) : fn20 [1] m = (0, 1, rUp (rUp (rUp m 15 0 35 (m 15 0 35 + 1)) 15 0 40 2) 15 0 39 0) := by
  have f6 : fn6 [m 15 0 35] m = (0, 95, m) := by rw [fn6_eq, pB_in hn, hb]
  have f7 : fn7 [] m = (0, 0, m) := by rw [fn7_eq, hsk, rUp_self rfl]
  unfold fn20
  simp only [zLet, List.getD_cons_zero, f7, f6, fn10_eq, fn9_eq, pBit_ge]
  rw [if_pos (show (0 : Int) ≤ -m 15 0 35 + m 15 0 34 + -1 by omega), if_neg (by decide), if_neg (by decide), if_neg (by decide), if_neg (by decide)]
/-- room is there for one more ARG -/
theorem fn104_eq {g k p s v : Int} {c : rHp} (h : c 10 g 5 < 4) : (fn104 [g, k, p, s, v] c).2.2 = rUp (rUp (rUp (rUp (rUp c 43 g (c 10 g 5) k) 45 g (c 10 g 5) p) 44 g (c 10 g 5) s) 46 g (c 10 g 5) v) 10 g 5 (c 10 g 5 + 1) := by
  unfold fn104
  simp only [zLet, List.getD_cons_zero, List.getD_cons_succ]
  rw [if_neg (by omega)]
theorem fn104_one {g k p s v : Int} {c : rHp} : fn104 [g, k, p, s, v] c = (0, 0, (fn104 [g, k, p, s, v] c).2.2) := by
  unfold fn104
  simp only [zLet, List.getD_cons_zero, List.getD_cons_succ]
  split <;> rfl
theorem fn104_fr {g k p s v : Int} {c : rHp} : fH 2 [10, 43, 44, 45, 46] [] c (fn104 [g, k, p, s, v] c).2.2 := by
  unfold fn104
  simp only [zLet, List.getD_cons_zero, List.getD_cons_succ]
  split
  · exact fH_refl
  · exact fH_grp (fH_grp (fH_grp (fH_grp (fH_grp fH_refl (by decide) (by decide)) (by decide) (by decide)) (by decide) (by decide)) (by decide) (by decide)) (by decide) (by decide)
