/-! ===== all WAYS of a RULE or question, by both ===== -/
theorem ways_d {r R : Int} {kb : Int → Int} {c m : rHp} (h : wR (j72 m) (qD r R (kb (m 73 0 r))) r R (m 73 0 r) kb 0 c m) : ∃ o c_q m_q, fn261 [] c = (o, 0, c_q) ∧ fn72 [r] m = (0, 0, m_q) ∧ ((o = 0 ∧ wP (j72 m) (qD r R (kb (m 73 0 r))) r R (m 73 0 r) kb 0 c m c_q m_q) ∨ (o = 1 ∧ m_q 15 0 77 = 3) ∨ (o = 4 ∧ m_q 15 0 77 = 2)) := by
  obtain ⟨o, c_q, e, hc⟩ := walk_all wJQ_d (zI_72 m r) arr_d h.st.n8 c m h
  have e72 : fn72 [r] m = zLoop (en72 m) (0, [r, 0], m) := rfl
  rcases hc with ⟨eo, m_q, z, hP⟩ | ⟨eo, m_q, z, b⟩ | ⟨eo, m_q, z, b⟩
  · refine ⟨o, c_q, m_q, e, e72.trans (z.trans (zLoop_inr ?_)), Or.inl ⟨eo, hP⟩⟩
    unfold en72
    simp only [zLet, List.getD_cons_zero, List.getD_cons_succ, ↓reduceIte, Nat.one_ne_zero]
    exact if_pos (by decide)
  · exact ⟨o, c_q, m_q, e, e72.trans z, Or.inr (Or.inl ⟨eo, b⟩)⟩
  · exact ⟨o, c_q, m_q, e, e72.trans z, Or.inr (Or.inr ⟨eo, b⟩)⟩
theorem ways_t {r R : Int} {kb : Int → Int} {c m : rHp} (h : wR (j73 m) (qTw r R (kb (m 73 0 r))) r R (m 73 0 r) kb 0 c m) : ∃ o c_q m_q, fn261 [] c = (o, 0, c_q) ∧ fn73 [r] m = (0, 0, m_q) ∧ ((o = 0 ∧ wP (j73 m) (qTw r R (kb (m 73 0 r))) r R (m 73 0 r) kb 0 c m c_q m_q) ∨ (o = 1 ∧ m_q 15 0 77 = 3) ∨ (o = 4 ∧ m_q 15 0 77 = 2)) := by
  obtain ⟨o, c_q, e, hc⟩ := walk_all wJQ_t (zI_73 m r) arr_t h.st.n8 c m h
  have e73 : fn73 [r] m = zLoop (en73 m) (0, [r, 0], m) := rfl
  rcases hc with ⟨eo, m_q, z, hP⟩ | ⟨eo, m_q, z, b⟩ | ⟨eo, m_q, z, b⟩
  · refine ⟨o, c_q, m_q, e, e73.trans (z.trans (zLoop_inr ?_)), Or.inl ⟨eo, hP⟩⟩
    unfold en73
    simp only [zLet, List.getD_cons_zero, List.getD_cons_succ, ↓reduceIte, Nat.one_ne_zero]
    exact if_pos (by decide)
  · exact ⟨o, c_q, m_q, e, e73.trans z, Or.inr (Or.inl ⟨eo, b⟩)⟩
  · exact ⟨o, c_q, m_q, e, e73.trans z, Or.inr (Or.inr ⟨eo, b⟩)⟩
theorem ways_a {R : Int} {kb : Int → Int} {c m : rHp} (h : wR (j74 m) (qQ (kb (m 73 0 61))) 61 R (m 73 0 61) kb 0 c m) : ∃ o c_q m_q, fn261 [] c = (o, 0, c_q) ∧ fn74 [] m = (0, 0, m_q) ∧ ((o = 0 ∧ wP (j74 m) (qQ (kb (m 73 0 61))) 61 R (m 73 0 61) kb 0 c m c_q m_q) ∨ (o = 1 ∧ m_q 15 0 77 = 3) ∨ (o = 4 ∧ m_q 15 0 77 = 2)) := by
  obtain ⟨o, c_q, e, hc⟩ := walk_all wJQ_a (zI_74 m) arr_a h.st.n8 c m h
  have e74 : fn74 [] m = zLoop (en74 m) (0, [0], m) := rfl
  rcases hc with ⟨eo, m_q, z, hP⟩ | ⟨eo, m_q, z, b⟩ | ⟨eo, m_q, z, b⟩
  · refine ⟨o, c_q, m_q, e, e74.trans (z.trans (zLoop_inr ?_)), Or.inl ⟨eo, hP⟩⟩
    unfold en74
    simp only [zLet, List.getD_cons_zero, List.getD_cons_succ, ↓reduceIte, Nat.one_ne_zero]
    exact if_pos (by decide)
  · exact ⟨o, c_q, m_q, e, e74.trans z, Or.inr (Or.inl ⟨eo, b⟩)⟩
  · exact ⟨o, c_q, m_q, e, e74.trans z, Or.inr (Or.inr ⟨eo, b⟩)⟩
