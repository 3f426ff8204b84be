/-! ===== a comparison that a CONSTANT begins, by both, when told ===== -/
theorem qG_up {L : List Nat} {J : List Int} {c c_q : rHp} (h : fH 2 L J c c_q) (h1 : 1 ∉ L) (h9 : 9 ∉ L) (h40 : 40 ∉ L) : qG c_q = qG c := by
  unfold qG
  rw [h.1 9 h9 (by decide), h.1 40 h40 (by decide), h.1 1 h1 (by decide)]
theorem qB_sign {H : Int → Prop} {c m c5 m5 : rHp} (hB : qB H c m) (hc : fH 2 [10] [6] c c5) (hm : fH 15 [77] [35] m m5) (ha : m 15 0 35 ≤ m5 15 0 35) : qB H c5 m5 := by
  obtain ⟨s1, s2, s3, s4, s5⟩ := hB
  have e5 : c5 2 0 5 = c 2 0 5 := hc.2 5 (by decide)
  have g74 : m5 74 0 (m5 15 0 44) = m 74 0 (m 15 0 44) := by rw [hm.1 74 (by decide) (by decide), hm.2 44 (by decide)]
  refine ⟨qS_up s1 (hm.2 44 (by decide)) (hm.1 74 (by decide) (by decide)) (hm.1 84 (by decide) (by decide)) ha, qO_up s2 (hc.2 16 (by decide)) (hc.1 25 (by decide) (by decide)) (hm.2 58 (by decide)) (hm.1 89 (by decide) (by decide)) (hm.1 90 (by decide) (by decide)) (hm.1 91 (by decide) (by decide)) (by rw [g74]; exact Int.le_refl _), ?_, ?_, ?_⟩
  · rw [e5, hm.2 45 (by decide)]; exact s3
  · rw [e5]; exact s4
  · rw [e5, g74]; exact s5
theorem comp_two {H : Int → Prop} {d : Int} {c0 m0 c m : rHp} (hR : qR d c0 m0 c m) (hd : d = 0 ∨ d = 1) (hB : qB H c m) (h00 : 0 ≤ c0 1000 0 0) (hlim : 2 * c0 1000 0 0 + m0 15 0 34 ≤ 10239) (hz : c 10 (qG c) 5 < 4) (hs : m 80 0 (4 * m 73 0 (m 15 0 44) + 32 * m 15 0 44) ≠ 1) (h5 : c 10 (qG c) 5 = 1) (hV : gVl (sN c0 m0) (m 15 0 45) (qG c) 0 (4 * (m 73 0 (m 15 0 44) + 8 * m 15 0 44)) c m) :
    (∃ c5 c_q m_q, fn154 [] c = (0, 1, c5) ∧ fn139 [qG c] c5 = (0, 1, c_q) ∧ (∀ wh, fn40 [wh] m = (0, 1, m_q)) ∧ qR 1 c0 m0 c_q m_q ∧ qB H c_q m_q ∧ fH 2 [3, 26, 22, 23, 10, 43, 44, 45, 46] [6, 8, 9, 10, 13] c c_q ∧ fH 15 [61, 62, 63, 74, 82, 83, 84, 80, 81, 77] [8, 9, 35, 37, 38, 39, 40] m m_q ∧ (∀ G h, G ∈ [10, 43, 44, 45, 46] → h ≠ qG c → c_q G h = c G h) ∧ m 15 0 35 < m_q 15 0 35 ∧ gCm (sN c0 m0) (m 15 0 45) (qG c) (m 73 0 (m 15 0 44) + 8 * m 15 0 44) c_q m_q) ∨
    (∃ c5 m_q, fn154 [] c = (0, 0, c5) ∧ (∀ wh, fn40 [wh] m = (0, 0, m_q)) ∧ qZ c0 m0 c5 m_q) ∨
    (∃ c5 c_q m_q, fn154 [] c = (0, 1, c5) ∧ fn139 [qG c] c5 = (0, 0, c_q) ∧ (∀ wh, fn40 [wh] m = (0, 0, m_q)) ∧ qZ c0 m0 c_q m_q) := by
  rcases sign_two hR hd with ⟨c5, m5, a1, a2, a3, a4, a5, a6, a7, a8⟩ | ⟨c5, m5, a1, a2, a3⟩
  · have hG : qG c5 = qG c := qG_up a3 (by decide) (by decide) (by decide)
    have hz5 : c5 10 (qG c5) 5 < 4 := by rw [hG, a5 _ _ (by omega)]; exact hz
    have tl : ∀ wh, fn40 [wh] m = if 1 ≤ (fn34 [1] m5).2.1 then (0, 1, (fn34 [1] m5).2.2) else (0, 0, (fn34 [1] m5).2.2) := fun wh => (a7 wh).trans (if_pos hs)
    rcases value_two (k := 1) a2 (qB_sign hB a3 a4 (by omega)) h00 hlim hz5 with ⟨c_q, m_q, b1, b2, b3, b4, b5, b6, b7, b8, b9, b10, b11, b12⟩ | ⟨c_q, m_q, b1, b2, b3⟩
    · rw [hG] at b1 b8 b9
      rw [hG, a5 _ _ (by omega), h5, a4.1 73 (by decide) (by decide), a4.2 44 (by decide), a4.2 45 (by decide), show 4 * m 73 0 (m 15 0 44) + (32 * m 15 0 44 + 1) = 4 * (m 73 0 (m 15 0 44) + 8 * m 15 0 44) + 1 by omega] at b12
      obtain ⟨d1, d2, d3⟩ := b12
      refine Or.inl ⟨c5, c_q, m_q, a1, b1, fun wh => ?_, b3, b4, ?_, ?_, ?_, by omega, ?_, ?_, ?_, ?_, d3⟩
      · rw [tl wh, b2]
        exact if_pos (show (1 : Int) ≤ 1 by decide)
      · exact fH_trans (fH_sub a3 (by decide) (by decide)) (fH_sub b5 (by decide) (by decide))
      · exact fH_trans (fH_sub a4 (by decide) (by decide)) (fH_sub b6 (by decide) (by decide))
      · intro G h q q2
        rw [b9 G h q q2]
        by_cases h10 : G = 10
        · subst h10
          funext j
          exact a5 h j (fun y => q2 y.1)
        · rw [a3.1 G (by simpa using h10) (memG q).1]
      · rw [b8 _ _ (by omega), b6.1 77 (by decide) (by decide)]; exact a8.1
      · rw [b6.1 77 (by decide) (by decide)]; exact a8.2.1
      · rw [b6.1 77 (by decide) (by decide)]; exact a8.2.2
      · refine gVl_up (gVl_up hV ⟨?_, ?_, ?_⟩ ⟨?_, ?_⟩) (d1 0 (by decide)) (d2 _ (by omega))
        · rw [a3.1 43 (by decide) (by decide)]
        · rw [a3.1 44 (by decide) (by decide)]
        · rw [a3.1 46 (by decide) (by decide)]
        · rw [a4.1 80 (by decide) (by decide)]
        · rw [a4.1 81 (by decide) (by decide)]
    · rw [hG] at b1
      refine Or.inr (Or.inr ⟨c5, c_q, m_q, a1, b1, fun wh => ?_, b3⟩)
      rw [tl wh, b2]
      exact if_neg (show ¬ (1 : Int) ≤ 0 by decide)
  · exact Or.inr (Or.inl ⟨c5, m5, a1, a2, a3⟩)
