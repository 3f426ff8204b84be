/-! ===== a WAY of a RULE with # arrives, by both ===== -/
variable {N : Int}
/-- the HEAD'S # , as both keep it -/
noncomputable def gTl (r R kn : Int) (c m : rHp) : Prop := (1 ≤ m 71 0 r ∧ m 71 0 r ≤ 4) ∧ c 10 (9 * R) 12 = m 71 0 r ∧ (m 71 0 r ≠ 1 → c 10 (9 * R) 14 = m 72 0 r ∧ qVr (m 72 0 r) ∧ qBt kn (m 72 0 r) = 1) ∧ (0 ≤ c 10 (9 * R) 13 ∧ c 10 (9 * R) 13 < c 10 (9 * R) 5) ∧ ∀ k, 0 ≤ k → k < c 10 (9 * R) 5 → (m 70 0 (k + 4 * r) = 3 ↔ k = c 10 (9 * R) 13)
theorem gTl_re {r R kn : Int} {c m c_q m_q : rHp} (h : gTl r R kn c m) (hc : s5 c c_q) (hm : s9 m m_q) : gTl r R kn c_q m_q := by
  obtain ⟨e9, e10, e43, e44, e46⟩ := hc
  obtain ⟨f, f13⟩ := hm
  unfold gTl at h ⊢
  rw [e10, f 70 (by decide) (by decide), f 71 (by decide) (by decide), f 72 (by decide) (by decide)]
  exact h
theorem gTl_up {r R kn : Int} {c m c_q m_q : rHp} (h : gTl r R kn c m) (hc : sC c c_q) (hm : sM m m_q) : gTl r R kn c_q m_q := gTl_re h (sC_5 hc) (sM_9 hm)
/-- rows, as both keep them; p: the HEAD'S PREDICATE -/
noncomputable def rR (N : Int) (h p : Int) (c m : rHp) : Prop := c 5 0 3 = m 15 0 90 ∧ (0 ≤ m 15 0 90 ∧ m 15 0 90 ≤ 2000) ∧ cH 56 57 58 dR (chR c) (m 15 0 90) c ∧ ∀ i, 0 ≤ i → i < m 15 0 90 → (∀ k, 0 ≤ k → k < 4 → c 34 0 (k + 4 * i) = m 105 0 (k + 4 * i) ∧ (vOk N) (m 105 0 (k + 4 * i)) ∧ (m 66 0 p ≤ k → m 105 0 (k + 4 * i) = 0)) ∧ amt h c m i
theorem rR_fr {h p : Int} {c m c_q m_q : rHp} (x : (rR N) h p c m) (hc : ∀ K : Nat, K = 5 ∨ K = 34 ∨ K = 35 ∨ K = 36 ∨ (56 ≤ K ∧ K ≤ 58) → c_q K = c K) (hm : ∀ K : Nat, K = 66 ∨ (105 ≤ K ∧ K ≤ 109) → m_q K = m K) (f90 : m_q 15 0 90 = m 15 0 90) : (rR N) h p c_q m_q := by
  have e : chR c_q = chR c := by funext i; unfold chR; rw [hc 34 (by decide)]
  unfold rR cH amt amp at x ⊢
  rw [e, hc 5 (by decide), hc 34 (by decide), hc 35 (by decide), hc 36 (by decide), hc 56 (by decide), hc 57 (by decide), hc 58 (by decide), hm 66 (by decide), hm 105 (by decide), hm 106 (by decide), hm 107 (by decide), hm 108 (by decide), hm 109 (by decide), f90]
  exact x
noncomputable def qTw (N : Int) (r R kn : Int) (c m : rHp) : Prop := tX c m ∧ (gHd N) r R kn c m ∧ gTl r R kn c m ∧ (rR N) (m 71 0 r) (m 69 0 r) c m ∧ c 6 0 9 = 1
theorem wJQ_t {m0 : rHp} {r R kn : Int} : wJQ (j73 m0) ((qTw N) r R kn) := by
  refine ⟨fun m m_q h e => ?_, fun c c_q m m_q h ec em => ?_⟩
  · unfold j73 j72 at h ⊢
    rw [e.1 73 (by decide) (by decide) (by decide), e.1 77 (by decide) (by decide) (by decide), e.1 78 (by decide) (by decide) (by decide), e.1 96 (by decide) (by decide) (by decide), e.1 100 (by decide) (by decide) (by decide)]
    exact h
  · obtain ⟨h1, h2, h3, h4, h5⟩ := h
    refine ⟨tX_fr h1 (fun K z => ec.1 K (by omega) (by omega) (by omega)) (fun K z => em.1 K (by omega) (by omega) (by omega)) (em.2 71 (by decide) (by decide)) (em.2 13 (by decide) (by decide)), gHd_up h2 (eC_sC ec) (eM_sM em), gTl_up h3 (eC_sC ec) (eM_sM em), ?_, ?_⟩
    · rw [em.1 71 (by decide) (by decide) (by decide), em.1 69 (by decide) (by decide) (by decide)]
      exact rR_fr h4 (fun K z => ec.1 K (by omega) (by omega) (by omega)) (fun K z => em.1 K (by omega) (by omega) (by omega)) (em.2 90 (by decide) (by decide))
    · rw [ec.2 9 (by decide) (by decide)]; exact h5
theorem fn244_t {c c2 : rHp} {o : Nat} {v : Int} (hp : c 6 0 9 = 1) (x : fn243 [] (mk4 33 (hdC c) c) = (o, v, c2)) : fn244 [] c = if o = 0 then (0, 0, c2) else (1, 0, c2) := by
  have e : fn244 [] c = zLoop (en244 c) (0, [0], c) := by
    unfold fn244 dn244
    simp only [zLet]
    rw [if_pos (show c 6 0 9 ≠ 2 by rw [hp]; decide)]
    rfl
  rw [e, en244_lp, zLoop_eq]
  unfold en244
  simp only [zLet, List.getD_cons_zero, List.getD_cons_succ, ↓reduceIte, x]
  rw [if_pos (show (4 : Int) ≥ 4 by decide), if_neg (show ¬ c 6 0 9 ≠ 1 from fun z => z hp)]
  by_cases a : o = 0
  · rw [if_pos a, if_pos a]; rfl
  · rw [if_neg a, if_neg a]; rfl
theorem zI_73 (m0 : rHp) (r : Int) : zI (j73 m0) r (m0 73 0 r) (fun g m => zLoop (en73 m0) (0, [r, g], m)) (fun g m => zLoop (en73 m0) (1, [r, g, g + 1 + 8 * r], m)) := by
  have back : ∀ (g : Int) (m : rHp), zLoop (en73 m0) (1, [r, g + -1, g + 8 * r], m) = zLoop (en73 m0) (1, [r, g - 1, g - 1 + 1 + 8 * r], m) := fun g m => by
    rw [show g - 1 + 1 = g by omega, show g - 1 = g + -1 by omega]
  refine ⟨fun g m h => ?_, fun g m j h hn hk => ?_, fun g m j h g0 hk => ?_, fun g m j h hn hk hk4 => ?_, fun g m j h hn hk => ?_, fun g m j h g0 hk => ?_⟩
  · show zLoop (en73 m0) (0, [r, g], m) = _
    refine zLoop_inr ?_
    unfold en73
    simp only [zLet, List.getD_cons_zero, List.getD_cons_succ, ↓reduceIte]
    rw [if_pos h]
  · show zLoop (en73 m0) (0, [r, g], m) = zTk _ _ r g m (m 100 0 (m 78 0 (g + 8 * r)))
    obtain ⟨j, j96, j100⟩ := j
    rw [j.2.1] at hk
    unfold zTk
    rw [j.2.2, j100, zLoop_eq]
    unfold en73
    simp only [zLet, List.getD_cons_zero, List.getD_cons_succ, ↓reduceIte]
    rw [if_neg (fun z => z h), if_pos hn, if_pos (show 0 ≤ -m0 77 0 (g + 8 * r) + 4 by rw [hk]; decide), if_pos hk]
    by_cases a : (fn62 [r, g, m0 100 0 (m0 78 0 (g + 8 * r))] m).2.1 ≥ 0
    · rw [if_pos a, if_pos a]
      by_cases b : m 15 0 72 + 1 ≤ 50000
      · rw [if_pos b, if_pos b]; rfl
      · rw [if_neg b, if_neg b]; rfl
    · rw [if_neg a, if_neg a]
      exact back g _
  · show zLoop (en73 m0) (1, [r, g, g + 1 + 8 * r], m) = zTk _ _ r g m (m 96 0 (m 104 0 g))
    obtain ⟨j, j96, j100⟩ := j
    rw [j.2.1] at hk
    unfold zTk
    rw [j96, zLoop_eq]
    unfold en73
    simp only [zLet, List.getD_cons_zero, List.getD_cons_succ, ↓reduceIte, Nat.one_ne_zero]
    rw [if_neg (show ¬ g < 0 by omega), if_neg (fun z => z h), if_pos (show 0 ≤ -m0 77 0 (g + 8 * r) + 4 by rw [hk]; decide), if_pos hk]
    by_cases a : (fn62 [r, g, m0 96 0 (m 104 0 g)] m).2.1 ≥ 0
    · rw [if_pos a, if_pos a]
      by_cases b : m 15 0 72 + 1 ≤ 50000
      · rw [if_pos b, if_pos b]; rfl
      · rw [if_neg b, if_neg b]; rfl
    · rw [if_neg a, if_neg a]
      exact back g _
  · show zLoop (en73 m0) (0, [r, g], m) = if 1 ≤ (fn64 [g + 8 * r] m).2.1 then zLoop (en73 m0) (0, [r, g + 1], (fn64 [g + 8 * r] m).2.2) else zLoop (en73 m0) (1, [r, g - 1, g - 1 + 1 + 8 * r], (fn64 [g + 8 * r] m).2.2)
    rw [j.1.2.1] at hk hk4
    rw [zLoop_eq]
    unfold en73
    simp only [zLet, List.getD_cons_zero, List.getD_cons_succ, ↓reduceIte]
    rw [if_neg (fun z => z h), if_pos hn, if_pos (show 0 ≤ -m0 77 0 (g + 8 * r) + 4 by omega), if_neg hk]
    by_cases a : 1 ≤ (fn64 [g + 8 * r] m).2.1
    · rw [if_pos a, if_pos a]; rfl
    · rw [if_neg a, if_neg a]
      exact back g _
  · show zLoop (en73 m0) (0, [r, g], m) = if 1 ≤ (fn65 [g + 8 * r] m).2.1 then zLoop (en73 m0) (0, [r, g + 1], (fn65 [g + 8 * r] m).2.2) else zLoop (en73 m0) (1, [r, g - 1, g - 1 + 1 + 8 * r], (fn65 [g + 8 * r] m).2.2)
    rw [j.1.2.1] at hk
    rw [zLoop_eq]
    unfold en73
    simp only [zLet, List.getD_cons_zero, List.getD_cons_succ, ↓reduceIte]
    rw [if_neg (fun z => z h), if_pos hn, if_neg (show ¬ 0 ≤ -m0 77 0 (g + 8 * r) + 4 by omega)]
    by_cases a : 1 ≤ (fn65 [g + 8 * r] m).2.1
    · rw [if_pos a, if_pos a]; rfl
    · rw [if_neg a, if_neg a]
      exact back g _
  · show zLoop (en73 m0) (1, [r, g, g + 1 + 8 * r], m) = zLoop (en73 m0) (1, [r, g - 1, g - 1 + 1 + 8 * r], m)
    rw [j.1.2.1] at hk
    refine (zLoop_eq _ _).trans ?_
    unfold en73
    simp only [zLet, List.getD_cons_zero, List.getD_cons_succ, ↓reduceIte, Nat.one_ne_zero]
    rw [if_neg (show ¬ g < 0 by omega), if_neg (fun z => z h)]
    by_cases a : 0 ≤ -m0 77 0 (g + 8 * r) + 4
    · rw [if_pos a, if_neg hk]
      exact back g _
    · rw [if_neg a]
      exact back g _
theorem z73_arr {m0 m : rHp} {r : Int} (h : m 15 0 77 = 0) : zLoop (en73 m0) (0, [r, m0 73 0 r], m) = zLoop (en73 m0) (1, [r, m0 73 0 r - 1, m0 73 0 r - 1 + 1 + 8 * r], (fn70 [r] m).2.2) := by
  rw [show m0 73 0 r - 1 + 1 = m0 73 0 r by omega, show m0 73 0 r - 1 = m0 73 0 r + -1 by omega]
  refine zLoop_inl ?_
  unfold en73
  simp only [zLet, List.getD_cons_zero, List.getD_cons_succ, ↓reduceIte]
  rw [if_neg (fun z => z h), if_neg (fun z => z rfl)]
theorem z73_bad {m0 m : rHp} {r g x : Int} (h : m 15 0 77 ≠ 0) : zLoop (en73 m0) (1, [r, g, x], m) = (0, 0, m) := by
  refine zLoop_inr ?_
  unfold en73
  simp only [zLet, List.getD_cons_zero, List.getD_cons_succ, ↓reduceIte, Nat.one_ne_zero]
  by_cases b : g < 0
  · rw [if_pos b]
  · rw [if_neg b, if_pos h]
theorem arr_t {m0 : rHp} {r R : Int} {kb : Int → Int} : (wSp N) (j73 m0) ((qTw N) r R (kb (m0 73 0 r))) r R (m0 73 0 r) kb (fun g m => zLoop (en73 m0) (0, [r, g], m)) (fun g m => zLoop (en73 m0) (1, [r, g, g + 1 + 8 * r], m)) (m0 73 0 r) (fn245 []) := by
  intro c m h
  show (wOut N) (j73 m0) ((qTw N) r R (kb (m0 73 0 r))) r R (m0 73 0 r) kb (fun g m => zLoop (en73 m0) (1, [r, g, g + 1 + 8 * r], m)) (m0 73 0 r) c m (fn245 [] c) (zLoop (en73 m0) (0, [r, m0 73 0 r], m))
  rw [z73_arr h.bad]
  obtain ⟨q1, q2, q3, q4, q5⟩ := h.qq
  have rl := h.st.rl
  have hm := head_made q2 rl h.bnd
  obtain ⟨t1, t2, t3, t4, t5⟩ := q3
  generalize hc1 : mk4 33 (hdC c) c = c1
  obtain ⟨m1, hm1⟩ : ∃ x, mk4 102 (hdM m r) m = x := ⟨_, rfl⟩
  have cg : ∀ K : Nat, K ≠ 33 → c1 K = c K := fun K hK => by rw [← hc1, mk4_grp hK]
  have mg : ∀ K : Nat, K ≠ 102 → m1 K = m K := fun K hK => by rw [← hm1, mk4_grp hK]
  have hd : ∀ k, 0 ≤ k → k < 4 → c1 33 0 k = m1 102 0 k := fun k k0 k4 => by
    rw [← hc1, ← hm1, mk4_in k0 k4, mk4_in k0 k4]
    exact (hm k k0 k4).1
  have f70 : fn70 [r] m = zLoop (en70 m) (0, [r, 0], m1) := by
    unfold fn70 dn70
    simp only [zLet, List.getD_cons_zero, fn67_eq, hm1]
    rfl
  have hT1 : tT c1 m1 := tT_fr h.tt (fun K z => cg K (by omega)) (fun K z => mg K (by omega)) (by rw [mg 15 (by decide)]) (by rw [mg 15 (by decide)])
  have hX1 : tX c1 m1 := tX_fr q1 (fun K z => cg K (by omega)) (fun K z => mg K (by omega)) (by rw [mg 15 (by decide)]) (by rw [mg 15 (by decide)])
  have hr1 : (rR N) (m 71 0 r) (m 69 0 r) c1 m1 := rR_fr q4 (fun K z => cg K (by omega)) (fun K z => mg K (by omega)) (by rw [mg 15 (by decide)])
  have w90 : m1 15 0 90 = m 15 0 90 := by rw [mg 15 (by decide)]
  obtain ⟨r1, r2, r3, r4⟩ := hr1
  rw [w90] at r1 r2 r3 r4
  -- the same row
  have same : pIx (fun j => !pRw c1 j) (m 15 0 90) 0 = pIx (fun j => !pRm m1 j) (m 15 0 90) 0 := by
    refine pIx_congr _ 0 (Nat.le_refl _) (fun j j0 j1 => ?_)
    show (!pRw c1 j) = (!pRm m1 j)
    have : pRw c1 j = pRm m1 j := by
      rw [Bool.eq_iff_iff, pRw_iff, pRm_iff]
      constructor
      · intro y k k0 k4
        rw [← ((r4 j j0 j1).1 k k0 k4).1, ← hd k k0 k4]
        exact y k k0 k4
      · intro y k k0 k4
        rw [((r4 j j0 j1).1 k k0 k4).1, hd k k0 k4]
        exact y k k0 k4
    rw [this]
  have f216 := fn216_eq r1 r2.2 r3
  have l70 := en70_lp (r := r) (m := m) (g := m1) (w := m 15 0 90) mg rfl r2.2 _ 0 (Nat.le_refl _) (Int.le_refl 0) r2.1
  rw [same] at f216
  have hvo : m 71 0 r ≠ 1 → (vOk N) (m 103 0 (m 72 0 r)) ∧ c 37 0 (c 10 (9 * R) 14) = m 103 0 (m 72 0 r) := fun y => by
    obtain ⟨y1, y2, y3⟩ := t3 y
    have := h.bnd _ y2 y3
    rw [y1]
    exact ⟨this.2, this.1⟩
  have e245 : ∀ (o : Nat) (v2 : Int) (c2 : rHp), fn244 [] c = (o, v2, c2) → fn245 [] c = if o = 0 then (0, 0, c2) else (1, 0, c2) := fun o v2 c2 e => by
    unfold fn245
    simp only [zLet, e]
  have back : ∀ (c2 m2 : rHp), (∀ K : Nat, K ≠ 5 → K ≠ 33 → K ≠ 34 → K ≠ 35 → K ≠ 36 → K ≠ 56 → K ≠ 57 → K ≠ 58 → c2 K = c K) → (∀ K : Nat, K ≠ 15 → K ≠ 102 → K ≠ 105 → K ≠ 106 → K ≠ 107 → K ≠ 108 → K ≠ 109 → m2 K = m K) → (∀ j, j ≠ 90 → m2 15 0 j = m 15 0 j) → (rR N) (m 71 0 r) (m 69 0 r) c2 m2 → (wP N) (j73 m0) ((qTw N) r R (kb (m0 73 0 r))) r R (m0 73 0 r) kb (m0 73 0 r) c m c2 m2 := by
    intro c2 m2 hc hmm h15 hr
    have sc : sC c c2 := ⟨hc 9 (by decide) (by decide) (by decide) (by decide) (by decide) (by decide) (by decide) (by decide), hc 10 (by decide) (by decide) (by decide) (by decide) (by decide) (by decide) (by decide) (by decide), hc 43 (by decide) (by decide) (by decide) (by decide) (by decide) (by decide) (by decide) (by decide), hc 44 (by decide) (by decide) (by decide) (by decide) (by decide) (by decide) (by decide) (by decide), hc 46 (by decide) (by decide) (by decide) (by decide) (by decide) (by decide) (by decide) (by decide), fun j _ _ => by rw [hc 6 (by decide) (by decide) (by decide) (by decide) (by decide) (by decide) (by decide) (by decide)]⟩
    have sm : sM m m2 := ⟨fun K a b => hmm K (by omega) (by omega) (by omega) (by omega) (by omega) (by omega) (by omega), h15 13 (by decide), h15 76 (by decide), fun j a b => h15 j (by omega)⟩
    refine wP_arr h (fun K z => hc K (by omega) (by omega) (by omega) (by omega) (by omega) (by omega) (by omega) (by omega)) (fun K z => hmm K (by omega) (by omega) (by omega) (by omega) (by omega) (by omega) (by omega)) (fun j hj => h15 j (by omega)) (by rw [h15 71 (by decide)]; exact Int.le_refl _) ?_ ?_ ?_ ?_ ?_
    · have := h.jm
      unfold j73 j72 at this ⊢
      rw [hmm 73 (by decide) (by decide) (by decide) (by decide) (by decide) (by decide) (by decide), hmm 77 (by decide) (by decide) (by decide) (by decide) (by decide) (by decide) (by decide), hmm 78 (by decide) (by decide) (by decide) (by decide) (by decide) (by decide) (by decide), hmm 96 (by decide) (by decide) (by decide) (by decide) (by decide) (by decide) (by decide), hmm 100 (by decide) (by decide) (by decide) (by decide) (by decide) (by decide) (by decide)]
      exact this
    · refine ⟨tX_fr q1 (fun K z => hc K (by omega) (by omega) (by omega) (by omega) (by omega) (by omega) (by omega) (by omega)) (fun K z => hmm K (by omega) (by omega) (by omega) (by omega) (by omega) (by omega) (by omega)) (h15 71 (by decide)) (h15 13 (by decide)), gHd_up q2 sc sm, gTl_up ⟨t1, t2, t3, t4, t5⟩ sc sm, ?_, ?_⟩
      · rw [sm.1 71 (by decide) (by decide), sm.1 69 (by decide) (by decide)]
        exact hr
      · rw [sc.2.2.2.2.2 9 (by decide) (by decide)]
        exact q5
    · exact tT_fr h.tt (fun K z => hc K (by omega) (by omega) (by omega) (by omega) (by omega) (by omega) (by omega) (by omega)) (fun K z => hmm K (by omega) (by omega) (by omega) (by omega) (by omega) (by omega) (by omega)) (h15 71 (by decide)) (h15 13 (by decide))
    · rw [hmm 99 (by decide) (by decide) (by decide) (by decide) (by decide) (by decide) (by decide), h15 71 (by decide)]
      exact h.vt
    · unfold tG
      rw [hc 4 (by decide) (by decide) (by decide) (by decide) (by decide) (by decide) (by decide) (by decide), hc 28 (by decide) (by decide) (by decide) (by decide) (by decide) (by decide) (by decide) (by decide), hc 27 (by decide) (by decide) (by decide) (by decide) (by decide) (by decide) (by decide) (by decide)]
      exact ⟨Int.le_refl _, fun _ _ _ => ⟨rfl, fun _ _ _ => rfl⟩⟩
  -- the value that is tallied, of the first side
  obtain ⟨v, hv⟩ : ∃ v, c1 37 0 (c1 10 (9 * c1 6 0 7) 14) = v := ⟨_, rfl⟩
  have hv1 : m 71 0 r ≠ 1 → v = m 103 0 (m 72 0 r) := fun y => by
    rw [← hv, cg 37 (by decide), cg 10 (by decide), cg 6 (by decide), rl]
    exact (hvo y).2
  have hh : c1 10 (9 * c1 6 0 7) 12 = m 71 0 r := by rw [cg 10 (by decide), cg 6 (by decide), rl]; exact t2
  have mt : ∀ (i : Int) (g x : rHp), mTl (m 71 0 r) (m 103 0 (m 72 0 r)) i g x → mTl (m 71 0 r) v i g x := fun i g x y => by
    by_cases b : m 71 0 r = 1
    · exact ⟨y.1, fun z => absurd b z, fun z => absurd b z⟩
    · rw [hv1 b]; exact y
  have vo : m 71 0 r ≠ 1 → (vOk N) v := fun y => by rw [hv1 y]; exact (hvo y).1
  have vl : m 71 0 r ≠ 1 → v < 1099511627776 → zF1 .l2i v = v := fun y z => by
    have := vo y
    unfold vOk at this
    exact l2i_s (by omega) (by omega)
  by_cases bw : m 15 0 90 ≤ pIx (fun j => !pRm m1 j) (m 15 0 90) 0
  · rw [if_pos bw] at f216 l70
    by_cases b2 : m 15 0 90 < 2000
    · -- a new row
      rw [if_pos b2] at f216
      rw [if_pos (show m 15 0 90 ≠ 2000 by omega)] at l70
      obtain ⟨c2, x1, x2, x3, x4⟩ := fn243_eq hh t1.1 t1.2 hv f216 r2.1
      obtain ⟨m2, y1, y2, y3, y4, y5, y6⟩ := en70_new (r := r) (m := m) (g := m1) (w := m 15 0 90) rfl (fun y => (hvo y).1)
      have c244 := fn244_t (c := c) (o := 0) (v := 0) (c2 := c2) q5 (by rw [hc1]; exact x1)
      rw [if_pos rfl] at c244
      have xr : ∀ K : Nat, K ≠ 5 → K ≠ 34 → K ≠ 35 → K ≠ 36 → K ≠ 56 → K ≠ 57 → K ≠ 58 → rNew (m 15 0 90) c1 K = c1 K := fun K a1 a2 a3 a4 a5 a6 a7 => by
        unfold rNew
        rw [rUp_grp a1, apd_grp a5 a6 a7, rUp_grp a4, rUp_grp a3, zCpy_grp a2]
      refine ⟨0, c2, by rw [e245 _ _ _ c244, if_pos rfl], Or.inl ⟨rfl, m2, by rw [f70, l70, y1], ?_⟩⟩
      refine back c2 m2 (fun K a1 a2 a3 a4 a5 a6 a7 a8 => by rw [x3 K a4 a5, xr K a1 a3 a4 a5 a6 a7 a8, cg K a2]) (fun K a1 a2 a3 a4 a5 a6 a7 => by rw [y3 K a1 a3 a4 a5 a6 a7, mg K a2]) (fun j hj => by rw [y5, if_neg hj, mg 15 (by decide)]) ?_
      have n5 : c2 5 0 3 = m 15 0 90 + 1 := by rw [x3 5 (by decide) (by decide)]; unfold rNew; rw [rUp_at]
      have n90 : m2 15 0 90 = m 15 0 90 + 1 := by rw [y5, if_pos rfl]
      have e34 : c2 34 = rNew (m 15 0 90) c1 34 := x3 34 (by decide) (by decide)
      have ech : chR c2 = chR (rNew (m 15 0 90) c1) := by funext i; unfold chR; rw [e34]
      refine ⟨by rw [n5, n90], by rw [n90]; omega, ?_, fun i i0 i1 => ?_⟩
      · rw [n90, ech]
        exact cH_eq (rNew_chn r2.1 r3) (x3 56 (by decide) (by decide)) (x3 57 (by decide) (by decide)) (x3 58 (by decide) (by decide))
      · rw [n90] at i1
        have z34 : ∀ j, c2 34 0 j = zCpy c1 33 0 0 34 0 (4 * m 15 0 90) 4 34 0 j := fun j => by
          rw [e34]
          unfold rNew
          rw [rUp_grp (by decide), apd_grp (by decide) (by decide) (by decide), rUp_grp (by decide), rUp_grp (by decide)]
        have m66 : m2 66 = m1 66 := y3 66 (by decide) (by decide) (by decide) (by decide) (by decide) (by decide)
        by_cases b : i = m 15 0 90
        · subst b
          refine ⟨fun k k0 k4 => ?_, ?_⟩
          · rw [z34, zCpy_in (by omega) (by omega), y4, rM4_new k0 k4, show 0 + (k + 4 * m 15 0 90 - 4 * m 15 0 90) = k by omega, m66, mg 66 (by decide), ← hm1, mk4_in k0 k4]
            refine ⟨?_, (hm k k0 k4).2.1, (hm k k0 k4).2.2⟩
            rw [hd k k0 k4, ← hm1, mk4_in k0 k4]
          · refine tl_two t1.1 t1.2 vo vl ?_ x2 (mt _ _ _ y2)
            have x35 : rNew (m 15 0 90) c1 35 0 (m 15 0 90) = 0 := by
              unfold rNew
              rw [rUp_grp (by decide), apd_grp (by decide) (by decide) (by decide), rUp_grp (by decide), rUp_at]
            have x36 : rNew (m 15 0 90) c1 36 0 (m 15 0 90) = 0 := by
              unfold rNew
              rw [rUp_grp (by decide), apd_grp (by decide) (by decide) (by decide), rUp_at]
            refine ⟨fun _ => ?_, fun _ => ?_, fun _ => ⟨?_, Or.inl rUp_at⟩⟩
            · rw [x35, rUp_grp (by decide), rUp_grp (by decide), rUp_at]
            · rw [x35, rUp_grp (by decide), rUp_at]
              exact ⟨rfl, by decide, by decide⟩
            · rw [x36, rUp_at]
        · obtain ⟨o1, o2⟩ := r4 i i0 (by omega)
          obtain ⟨u1, u2⟩ := x4 i b
          obtain ⟨u3, u4, u5, u6⟩ := y6 i b
          have v35 : rNew (m 15 0 90) c1 35 0 i = c1 35 0 i := by
            unfold rNew
            rw [rUp_grp (by decide), apd_grp (by decide) (by decide) (by decide), rUp_grp (by decide), rUp_ne (fun z => b z.2.2), zCpy_grp (by decide)]
          have v36 : rNew (m 15 0 90) c1 36 0 i = c1 36 0 i := by
            unfold rNew
            rw [rUp_grp (by decide), apd_grp (by decide) (by decide) (by decide), rUp_ne (fun z => b z.2.2), rUp_grp (by decide), zCpy_grp (by decide)]
          refine ⟨fun k k0 k4 => ?_, ?_⟩
          · rw [z34, zCpy_off (by omega), y4, rM4_old (by omega), m66]
            exact o1 k k0 k4
          · unfold amt amp at o2 ⊢
            rw [u1, u2, v35, v36, u3, u4, u5, u6]
            exact o2
    · -- one too many
      rw [if_neg b2] at f216
      rw [if_neg (show ¬ m 15 0 90 ≠ 2000 by omega)] at l70
      have e243 : fn243 [] c1 = (1, 0, c1) := by
        unfold fn243
        simp only [zLet, f216]
        rw [if_neg (show ¬ (-1 : Int) ≥ 0 by decide)]
      have c244 := fn244_t (c := c) (o := 1) (v := 0) (c2 := c1) q5 (by rw [hc1]; exact e243)
      rw [if_neg (by decide)] at c244
      refine ⟨1, c1, by rw [e245 _ _ _ c244, if_neg (by decide)], Or.inr (Or.inl ⟨rfl, rUp m1 15 0 77 3, ?_, rUp_at⟩)⟩
      rw [f70, l70]
      exact z73_bad (show (rUp m1 15 0 77 3) 15 0 77 ≠ 0 by rw [rUp_at]; decide)
  · -- a row that is there
    rw [if_neg bw] at f216 l70
    have i0 : 0 ≤ pIx (fun j => !pRm m1 j) (m 15 0 90) 0 := pIx_le
    have hit : pRm m1 (pIx (fun j => !pRm m1 j) (m 15 0 90) 0) = true := by
      have z := pIx_stop (q := fun j => !pRm m1 j) (n := m 15 0 90) (i := 0) (by omega)
      have z : (!pRm m1 (pIx (fun j => !pRm m1 j) (m 15 0 90) 0)) = false := z
      simpa using z
    generalize pIx (fun j => !pRm m1 j) (m 15 0 90) 0 = i at *
    obtain ⟨c2, x1, x2, x3, x4⟩ := fn243_eq hh t1.1 t1.2 hv f216 i0
    obtain ⟨m2, y1, y2, y3, y4⟩ := en70_hit (r := r) (m := m) (g := m1) (i := i) mg (by omega) (by omega) hit (fun y => (hvo y).1)
    have c244 := fn244_t (c := c) (o := 0) (v := 0) (c2 := c2) q5 (by rw [hc1]; exact x1)
    rw [if_pos rfl] at c244
    refine ⟨0, c2, by rw [e245 _ _ _ c244, if_pos rfl], Or.inl ⟨rfl, m2, by rw [f70, l70, zLoop_inr y1], ?_⟩⟩
    refine back c2 m2 (fun K a1 a2 a3 a4 a5 a6 a7 a8 => by rw [x3 K a4 a5, cg K a2]) (fun K a1 a2 a3 a4 a5 a6 a7 => by rw [y3 K a4 a5 a6 a7, mg K a2]) (fun j hj => by rw [y3 15 (by decide) (by decide) (by decide) (by decide), mg 15 (by decide)]) ?_
    have n90 : m2 15 0 90 = m 15 0 90 := by rw [y3 15 (by decide) (by decide) (by decide) (by decide)]; exact w90
    have ech : chR c2 = chR c1 := by funext j; unfold chR; rw [x3 34 (by decide) (by decide)]
    refine ⟨by rw [x3 5 (by decide) (by decide), n90]; exact r1, by rw [n90]; exact r2, ?_, fun j j0 j1 => ?_⟩
    · rw [n90, ech]
      exact cH_eq r3 (x3 56 (by decide) (by decide)) (x3 57 (by decide) (by decide)) (x3 58 (by decide) (by decide))
    · rw [n90] at j1
      obtain ⟨o1, o2⟩ := r4 j j0 j1
      refine ⟨fun k k0 k4 => ?_, ?_⟩
      · rw [x3 34 (by decide) (by decide), y3 105 (by decide) (by decide) (by decide) (by decide), y3 66 (by decide) (by decide) (by decide) (by decide)]
        exact o1 k k0 k4
      · by_cases b : j = i
        · subst b
          exact tl_two t1.1 t1.2 vo vl o2.1 x2 (mt _ _ _ y2)
        · obtain ⟨u1, u2⟩ := x4 j b
          obtain ⟨u3, u4, u5, u6⟩ := y4 j b
          unfold amt amp at o2 ⊢
          rw [u1, u2, u3, u4, u5, u6]
          exact o2
