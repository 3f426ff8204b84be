/-! ===== whether any TUPLE fits, by both ===== -/
/-- an ATOM as both keep it -/
noncomputable def gAt (c m : rHp) (G q : Int) : Prop := c 10 G 8 = m 78 0 q ∧ (0 ≤ m 78 0 q ∧ m 78 0 q < m 15 0 13) ∧ c 10 G 5 = m 66 0 (m 78 0 q) ∧ (0 ≤ c 10 G 5 ∧ c 10 G 5 ≤ 4) ∧ (∀ k, 0 ≤ k → k < c 10 G 5 → gArg c m G q k) ∧ (-1 ≤ c 10 G 9 ∧ c 10 G 9 < c 10 G 5) ∧ (0 ≤ c 10 G 9 → c 43 G (c 10 G 9) = 0 ∨ c 43 G (c 10 G 9) = 1 ∧ qBt (m 79 0 q) (c 44 G (c 10 G 9)) = 1)
/-- the TUPLES of both -/
noncomputable def tT (c m : rHp) : Prop := c 4 0 7 = m 15 0 71 ∧ tChn c (c 4 0 7) ∧ cM m ∧ ∀ t, 0 ≤ t → t < c 4 0 7 → c 28 0 t = m 93 0 t ∧ ∀ k, 0 ≤ k → k < 4 → c 27 0 (k + 4 * t) = m 99 0 (k + 4 * t)
/-- the TUPLE t fits the ATOM q -/
noncomputable def pFt (m : rHp) (q t : Int) : Bool := decide (m 93 0 t = m 78 0 q) && pMt m q t
theorem pMt_all {m : rHp} {q t : Int} : pMt m q t = true ↔ ∀ k, 0 ≤ k → k < m 66 0 (m 78 0 q) → pMk m q t k = true := by
  unfold pMt
  rw [decide_eq_true_eq, pIx_all]
/-- the chain along which the ATOM G is sought -/
noncomputable def xCd (c : rHp) (G : Int) : Int := if c 10 G 9 < 0 then hs 58 (c 10 G 8) else hs 52 (aKey (c 10 G 8) (c 10 G 9) (vGd c G (c 10 G 9)))
theorem fit_cd {c m : rHp} {G q t : Int} (hg : gAt c m G q) (hT : tT c m) (hb : ∀ v, qVr v → qBt (m 79 0 q) v = 1 → c 37 0 v = m 103 0 v) (t0 : 0 ≤ t) (t1 : t < c 4 0 7) (h : pFt m q t = true) : ¬ nCd c G (c 10 G 9) (xCd c G) t := by
  obtain ⟨g1, g2, g3, g4, g5, g6, g7⟩ := hg
  obtain ⟨T1, T2, T3, T4⟩ := hT
  obtain ⟨v1, v2⟩ := T4 t t0 t1
  unfold pFt at h
  rw [Bool.and_eq_true, decide_eq_true_eq] at h
  have ep : c 28 0 t = c 10 G 8 := by rw [v1, h.1, g1]
  intro z
  by_cases hu : c 10 G 9 < 0
  · exact z.1 hu ep
  · refine z.2 (by omega) ?_
    have hk := (pMt_all.1 h.2) (c 10 G 9) (by omega) (by rw [← g3]; exact g6.2)
    have ev : c 27 0 (c 10 G 9 + 4 * t) = vGd c G (c 10 G 9) := by
      rw [v2 (c 10 G 9) (by omega) (by omega)]
      unfold vGd
      rcases g5 (c 10 G 9) (by omega) g6.2 with ⟨a1, a2, a3⟩ | ⟨a1, a2, a3, a4, a5⟩ | ⟨a1, a2, a3, a4, a5, _⟩ | ⟨a1, _⟩ | ⟨a1, _⟩
      · rw [if_pos (show c 43 G (c 10 G 9) ≠ 1 by rw [a1]; decide), a3]
        unfold pMk at hk
        rw [if_pos a2] at hk
        exact (of_decide_eq_true hk).symm
      · rw [if_neg (fun y => y a1), hb _ a4 a5]
        have := ((pMk_1 (t := t) a2 (by rw [← a3]; exact a4)).1 hk).1
        rw [← a3] at this
        exact (this a5).symm
      · rcases g7 (by omega) with y | y
        · rw [a1] at y; exact absurd y (by decide)
        · exact absurd y.2 a5
      · rcases g7 (by omega) with y | y
        · rw [a1] at y; exact absurd y (by decide)
        · rw [a1] at y; exact absurd y.1 (by decide)
      · rcases g7 (by omega) with y | y
        · rw [a1] at y; exact absurd y (by decide)
        · rw [a1] at y; exact absurd y.1 (by decide)
    have e1 : cdG c (c 10 G 9) t = chA c (c 10 G 9 + 4 * t) := by unfold cdG; rw [if_neg hu]
    have e2 : xCd c G = hs 52 (aKey (c 10 G 8) (c 10 G 9) (vGd c G (c 10 G 9))) := by unfold xCd; rw [if_neg hu]
    rw [e1, e2]
    unfold chA
    rw [show (c 10 G 9 + 4 * t) / 4 = t by omega, show (c 10 G 9 + 4 * t) % 4 = c 10 G 9 by omega, ep, ev]
/-- a step along the chain of an ATOM: what is passed fits not -/
theorem seek {c m : rHp} {G q l : Int} (hg : gAt c m G q) (hT : tT c m) (hb : ∀ v, qVr v → qBt (m 79 0 q) v = 1 → c 37 0 v = m 103 0 v) : ∃ r, fn226 [G, l] c = (0, r, c) ∧ ((r = -1 ∧ ∀ j, 0 ≤ j → l ≤ j → j < c 4 0 7 → pFt m q j = false) ∨ (0 ≤ r ∧ r < c 4 0 7 ∧ cdG c (c 10 G 9) r = xCd c G ∧ ∀ j, 0 ≤ j → l ≤ j → j < r → pFt m q j = false)) := by
  have n0 := hT.2.2.1.1
  rw [← hT.1] at n0
  obtain ⟨r, r1, r2⟩ := firstFor (c := c) (G := G) (l := l) (n := c 4 0 7) (u := c 10 G 9) (X := xCd c G) n0 rfl hT.2.1 rfl (by have := hg.2.2.2.1; have := hg.2.2.2.2.2.1; omega) (fun z => by unfold xCd; rw [if_pos z]) (fun z => by unfold xCd; rw [if_neg (by omega)])
  have no : ∀ j, 0 ≤ j → j < c 4 0 7 → nCd c G (c 10 G 9) (xCd c G) j → pFt m q j = false := fun j j0 j1 z => by
    by_cases b : pFt m q j = true
    · exact absurd z (fit_cd hg hT hb j0 j1 b)
    · exact Bool.eq_false_iff.mpr b
  refine ⟨r, r1, ?_⟩
  rcases r2 with ⟨q1, q2⟩ | ⟨q1, q2, q3, q4⟩
  · exact Or.inl ⟨q1, fun j j0 j1 j2 => no j j0 j2 (q2 j j0 j1 j2)⟩
  · exact Or.inr ⟨q1, q2, q3, fun j j0 j1 j2 => no j j0 (by omega) (q4 j j0 j1 j2)⟩
theorem seek_on {c m : rHp} {G q t : Int} (hg : gAt c m G q) (hT : tT c m) (hb : ∀ v, qVr v → qBt (m 79 0 q) v = 1 → c 37 0 v = m 103 0 v) (t0 : 0 ≤ t) (t1 : t < c 4 0 7) (hX : cdG c (c 10 G 9) t = xCd c G) : ∃ r, fn227 [G, t] c = (0, r, c) ∧ ((r = -1 ∧ ∀ j, t < j → j < c 4 0 7 → pFt m q j = false) ∨ (t < r ∧ r < c 4 0 7 ∧ cdG c (c 10 G 9) r = xCd c G ∧ ∀ j, t < j → j < r → pFt m q j = false)) := by
  have n0 := hT.2.2.1.1
  rw [← hT.1] at n0
  obtain ⟨r, r1, r2⟩ := nextFor (c := c) (G := G) (t := t) (n := c 4 0 7) (u := c 10 G 9) (X := xCd c G) n0 hT.2.1 rfl (by have := hg.2.2.2.1; have := hg.2.2.2.2.2.1; omega) t0 t1 hX
  have no : ∀ j, 0 ≤ j → j < c 4 0 7 → cdG c (c 10 G 9) j ≠ xCd c G → pFt m q j = false := fun j j0 j1 z => by
    by_cases b : pFt m q j = true
    · refine absurd ⟨fun y => ?_, fun _ => z⟩ (fit_cd hg hT hb j0 j1 b)
      intro w
      refine z ?_
      unfold cdG xCd chP
      rw [if_pos y, if_pos y, w]
    · exact Bool.eq_false_iff.mpr b
  refine ⟨r, r1, ?_⟩
  rcases r2 with ⟨q1, q2⟩ | ⟨q1, q2, q3, q4⟩
  · exact Or.inl ⟨q1, fun j j0 j1 => no j (by omega) j1 (q2 j j0 j1)⟩
  · exact Or.inr ⟨q1, q2, q3, fun j j0 j1 => no j (by omega) (by omega) (q4 j j0 j1)⟩
