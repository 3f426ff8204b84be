/-! ===== the WAYS of a question, by both ===== -/
noncomputable def gAnw (kn : Int) (c m : rHp) : Prop := c 8 (c 6 0 6) 1 = m 15 0 94 ∧ 0 ≤ m 15 0 94 ∧ ∀ i v, 0 ≤ i → i < m 15 0 94 → i < 100 → qVr v → qBt kn v = 1 → c 41 (c 6 0 6) (v + 8 * i) = m 111 0 (v + 8 * i) ∧ vOk (m 111 0 (v + 8 * i))
noncomputable def qQw (kn : Int) (c m : rHp) : Prop := gAnw kn c m ∧ c 6 0 9 = 2
theorem wJQ_w {m0 : rHp} {kn : Int} : wJQ (j74 m0) (qQw kn) := by
  refine ⟨fun m m_q h e => ?_, fun c c_q m m_q h ec em => ?_⟩
  · unfold j74 j73 j72 at h ⊢
    rw [e.1 73 (by decide) (by decide) (by decide), e.1 77 (by decide) (by decide) (by decide), e.1 78 (by decide) (by decide) (by decide), e.1 96 (by decide) (by decide) (by decide), e.1 100 (by decide) (by decide) (by decide)]
    exact h
  · obtain ⟨h2, h3⟩ := h
    refine ⟨?_, ?_⟩
    · unfold gAnw at h2 ⊢
      rw [ec.1 8 (by decide) (by decide) (by decide), ec.1 41 (by decide) (by decide) (by decide), ec.2 6 (by decide) (by decide), em.1 111 (by decide) (by decide) (by decide), em.2 94 (by decide) (by decide)]
      exact h2
    · rw [ec.2 9 (by decide) (by decide)]; exact h3
theorem arr_w {m0 : rHp} {R : Int} {kb : Int → Int} : wSp (j74 m0) (qQw (kb (m0 73 0 61))) 61 R (m0 73 0 61) kb (fun g m => zLoop (en74 m0) (0, [g], m)) (fun g m => zLoop (en74 m0) (1, [g, g + 1 + 488], m)) (m0 73 0 61) (fn245 []) := by
  intro c m h
  show wOut (j74 m0) (qQw (kb (m0 73 0 61))) 61 R (m0 73 0 61) kb (fun g m => zLoop (en74 m0) (1, [g, g + 1 + 488], m)) (m0 73 0 61) c m (fn245 [] c) (zLoop (en74 m0) (0, [m0 73 0 61], m))
  rw [z74_arr h.bad]
  obtain ⟨⟨a1, a2, a3⟩, q3⟩ := h.qq
  obtain ⟨m_q, k1, k2, k3, k4, k5⟩ := fn66_eq a2
  rw [k1]
  have e244 : fn244 [] c = (0, 0, (fn242 [c 6 0 6] c).2.2) := by
    unfold fn244 dn244
    simp only [zLet]
    rw [if_neg (show ¬ c 6 0 9 ≠ 2 from fun z => z q3)]
    rfl
  have e242 : ∃ c_q, fn242 [c 6 0 6] c = (0, 0, c_q) ∧ (∀ K, K ≠ 8 → K ≠ 41 → c_q K = c K) ∧ c_q 8 (c 6 0 6) 1 = c 8 (c 6 0 6) 1 + 1 ∧ (∀ j, j < 8 * c 8 (c 6 0 6) 1 → c_q 41 (c 6 0 6) j = c 41 (c 6 0 6) j) ∧ (c 8 (c 6 0 6) 1 < 100 → ∀ v, 0 ≤ v → v < 8 → c_q 41 (c 6 0 6) (v + 8 * c 8 (c 6 0 6) 1) = c 37 0 v) := by
    unfold fn242
    simp only [zLet, List.getD_cons_zero]
    by_cases b : c 8 (c 6 0 6) 1 ≥ 100
    · rw [if_pos b]
      exact ⟨_, rfl, fun K a _ => rUp_grp a, rUp_at, fun j _ => by rw [rUp_grp (by decide)], fun z => by omega⟩
    · rw [if_neg b]
      refine ⟨_, rfl, fun K a d => by rw [rUp_grp a, zCpy_grp d], rUp_at, fun j hj => by rw [rUp_grp (by decide), zCpy_off (by omega)], fun _ v v0 v8 => ?_⟩
      rw [rUp_grp (by decide), zCpy_in (by omega) (by omega), show 0 + (v + 8 * c 8 (c 6 0 6) 1 - 8 * c 8 (c 6 0 6) 1) = v by omega]
  obtain ⟨c_q, x1, x2, x3, x4, x5⟩ := e242
  rw [x1] at e244
  have e245 : fn245 [] c = (0, 0, c_q) := by
    unfold fn245
    simp only [zLet, e244]
    exact if_pos trivial
  have c66 : c_q 6 = c 6 := x2 6 (by decide) (by decide)
  refine ⟨0, c_q, e245, Or.inl ⟨rfl, m_q, rfl, ?_⟩⟩
  refine wP_arr h (fun K z => x2 K (by omega) (by omega)) (fun K z => k2 K (by omega) (by omega)) (fun j hj => by rw [k3, if_neg (by omega)]) (by rw [k3, if_neg (by decide)]; exact Int.le_refl _) ?_ ?_ ?_ ?_ ?_
  · have := h.jm
    unfold j74 j73 j72 at this ⊢
    rw [k2 73 (by decide) (by decide), k2 77 (by decide) (by decide), k2 78 (by decide) (by decide), k2 96 (by decide) (by decide), k2 100 (by decide) (by decide)]
    exact this
  · refine ⟨⟨?_, ?_, ?_⟩, ?_⟩
    · rw [c66, x3, k3, if_pos rfl, a1]
    · rw [k3, if_pos rfl]; omega
    · intro i v i0 i1 i100 v0 v1
      rw [k3, if_pos rfl] at i1
      rw [c66]
      by_cases b : i = m 15 0 94
      · rw [b, k5 (by omega) v v0.1 v0.2]
        have := x5 (by omega) v v0.1 v0.2
        rw [a1] at this
        rw [this]
        exact h.bnd v v0 v1
      · have v08 := v0.2
        rw [k4 _ (by omega), x4 _ (by omega)]
        exact a3 i v i0 (by omega) i100 v0 v1
    · rw [c66]; exact q3
  · exact tT_fr h.tt (fun K z => x2 K (by omega) (by omega)) (fun K z => k2 K (by omega) (by omega)) (by rw [k3, if_neg (by decide)]) (by rw [k3, if_neg (by decide)])
  · rw [k2 99 (by decide) (by decide), k3, if_neg (by decide)]
    exact h.vt
  · unfold tG
    rw [x2 4 (by decide) (by decide), x2 28 (by decide) (by decide), x2 27 (by decide) (by decide)]
    exact ⟨Int.le_refl _, fun _ _ _ => ⟨rfl, fun _ _ _ => rfl⟩⟩
theorem ways_w {R : Int} {kb : Int → Int} {c m : rHp} (h : wR (j74 m) (qQw (kb (m 73 0 61))) 61 R (m 73 0 61) kb 0 c m) : ∃ o c_q m_q, fn261 [] c = (o, 0, c_q) ∧ fn74 [] m = (0, 0, m_q) ∧ ((o = 0 ∧ wP (j74 m) (qQw (kb (m 73 0 61))) 61 R (m 73 0 61) kb 0 c m c_q m_q) ∨ (o = 1 ∧ m_q 15 0 77 = 3) ∨ (o = 4 ∧ m_q 15 0 77 = 2)) := by
  obtain ⟨o, c_q, e, hc⟩ := walk_all wJQ_w (zI_74 m) arr_w h.st.n8 c m h
  have e74 : fn74 [] m = zLoop (en74 m) (0, [0], m) := rfl
  rcases hc with ⟨eo, m_q, z, hP⟩ | ⟨eo, m_q, z, b⟩ | ⟨eo, m_q, z, b⟩
  · refine ⟨o, c_q, m_q, e, e74.trans (z.trans (zLoop_inr ?_)), Or.inl ⟨eo, hP⟩⟩
    unfold en74
    simp only [zLet, List.getD_cons_zero, List.getD_cons_succ, ↓reduceIte, Nat.one_ne_zero]
    exact if_pos (by decide)
  · exact ⟨o, c_q, m_q, e, e74.trans z, Or.inr (Or.inl ⟨eo, b⟩)⟩
  · exact ⟨o, c_q, m_q, e, e74.trans z, Or.inr (Or.inr ⟨eo, b⟩)⟩
