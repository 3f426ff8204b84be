/-! ===== a HEAD comes, by both ===== -/
variable {N : Int}
noncomputable def mk4 (G : Nat) (f : Int → Int) (g : rHp) : rHp := rUp (rUp (rUp (rUp g G 0 0 (f 0)) G 0 1 (f 1)) G 0 2 (f 2)) G 0 3 (f 3)
theorem mk4_grp {G K : Nat} {f : Int → Int} {g : rHp} (h : K ≠ G) : mk4 G f g K = g K := by
  unfold mk4
  rw [rUp_grp h, rUp_grp h, rUp_grp h, rUp_grp h]
theorem mk4_in {G : Nat} {f : Int → Int} {g : rHp} {k : Int} (k0 : 0 ≤ k) (k4 : k < 4) : mk4 G f g G 0 k = f k := by
  unfold mk4
  rw [rUp_in, rUp_in, rUp_in, rUp_in]
  by_cases e3 : k = 3
  · rw [if_pos e3, e3]
  · rw [if_neg e3]
    by_cases e2 : k = 2
    · rw [if_pos e2, e2]
    · rw [if_neg e2]
      by_cases e1 : k = 1
      · rw [if_pos e1, e1]
      · rw [if_neg e1, if_pos (by omega), show k = 0 by omega]
/-- ARG k of the HEAD, as the reference makes it -/
noncomputable def hdM (m : rHp) (r k : Int) : Int := if k ≥ m 66 0 (m 69 0 r) then 0 else if m 70 0 (k + 4 * r) ≠ 3 then (if m 70 0 (k + 4 * r) ≠ 1 then m 76 0 (k + 4 * r) else m 103 0 (m 76 0 (k + 4 * r))) else 0
theorem en67_go {r k : Int} {m g : rHp} (h : k < 4) : en67 m (0, [r, k], g) = .inl (0, [r, k + 1], rUp g 102 0 k (hdM m r k)) := by
  unfold en67 hdM
  simp only [zLet, List.getD_cons_zero, List.getD_cons_succ, ↓reduceIte]
  rw [if_neg (show ¬ k ≥ 4 by omega)]
  by_cases a : k ≥ m 66 0 (m 69 0 r)
  · rw [if_pos a, if_pos a]
  · rw [if_neg a, if_neg a]
    by_cases b : m 70 0 (k + 4 * r) ≠ 3
    · rw [if_pos b, if_pos b]
      by_cases d : m 70 0 (k + 4 * r) ≠ 1
      · rw [if_pos d, if_pos d]
      · rw [if_neg d, if_neg d]
    · rw [if_neg b, if_neg b]
theorem fn67_eq {r : Int} {m : rHp} : fn67 [r] m = (0, 0, mk4 102 (hdM m r) m) := by
  have e : fn67 [r] m = zLoop (en67 m) (0, [r, 0], m) := rfl
  rw [e, zLoop_inl (en67_go (by decide)), zLoop_inl (en67_go (by decide)), zLoop_inl (en67_go (by decide)), zLoop_inl (en67_go (by decide))]
  refine zLoop_inr ?_
  unfold en67
  simp only [zLet, List.getD_cons_zero, List.getD_cons_succ, ↓reduceIte]
  rw [if_pos (by decide)]
  rfl
/-- ARG k of the HEAD, as the first side makes it -/
noncomputable def hdC (c : rHp) (k : Int) : Int := if k ≥ c 10 (9 * c 6 0 7) 5 then 0 else vGd c (9 * c 6 0 7) k
theorem en244_go {k : Int} {c g : rHp} (h : k < 4) (e : ∀ K : Nat, K ≠ 33 → g K = c K) : en244 c (0, [k], g) = .inl (0, [k + 1], rUp g 33 0 k (hdC c k)) := by
  unfold en244 hdC
  simp only [zLet, List.getD_cons_zero, List.getD_cons_succ, ↓reduceIte, fn224_v]
  rw [if_neg (show ¬ k ≥ 4 by omega)]
  have ev : vGd g (9 * c 6 0 7) k = vGd c (9 * c 6 0 7) k := by
    unfold vGd
    rw [e 43 (by decide), e 46 (by decide), e 37 (by decide), e 44 (by decide)]
  by_cases a : k ≥ c 10 (9 * c 6 0 7) 5
  · rw [if_pos a, if_pos a]
  · rw [if_neg a, if_neg a, ev]
theorem en244_lp {c : rHp} : zLoop (en244 c) (0, [0], c) = zLoop (en244 c) (0, [4], mk4 33 (hdC c) c) := by
  rw [zLoop_inl (en244_go (by decide) (fun _ _ => rfl))]
  rw [zLoop_inl (en244_go (by decide) (fun K hK => by rw [rUp_grp hK]))]
  rw [zLoop_inl (en244_go (by decide) (fun K hK => by rw [rUp_grp hK, rUp_grp hK]))]
  rw [zLoop_inl (en244_go (by decide) (fun K hK => by rw [rUp_grp hK, rUp_grp hK, rUp_grp hK]))]
  rfl
theorem fn244_d {c c2 : rHp} {o : Nat} {v : Int} (hp : c 6 0 9 = 0) (x : fn233 [c 10 (9 * c 6 0 7) 8, c 6 0 10, c 6 0 8] (mk4 33 (hdC c) c) = (o, v, c2)) : fn244 [] c = if o = 0 then (if 1 ≤ v then (0, 0, zCpy (rUp c2 32 0 (c 4 0 7) (c 9 (c 6 0 7) 3)) 38 0 0 31 0 (8 * c 4 0 7) (c 9 (c 6 0 7) 3)) else (0, 0, c2)) else (1, 0, c2) := by
  have e : fn244 [] c = zLoop (en244 c) (0, [0], c) := by
    unfold fn244 dn244
    simp only [zLet]
    rw [if_pos (show c 6 0 9 ≠ 2 by rw [hp]; decide)]
    rfl
  rw [e, en244_lp, zLoop_eq]
  unfold en244
  simp only [zLet, List.getD_cons_zero, List.getD_cons_succ, ↓reduceIte, x]
  rw [if_pos (show (4 : Int) ≥ 4 by decide), if_pos (show c 6 0 9 ≠ 1 by rw [hp]; decide)]
  by_cases a : o = 0
  · rw [if_pos a, if_pos a]
    by_cases b : 1 ≤ v
    · rw [if_pos b, if_pos b]; rfl
    · rw [if_neg b, if_neg b]; rfl
  · rw [if_neg a, if_neg a]; rfl
/-- the HEAD, as both keep it; kn: what is KNOWN at the end -/
noncomputable def gHd (N : Int) (r R kn : Int) (c m : rHp) : Prop := c 10 (9 * R) 8 = m 69 0 r ∧ (0 ≤ m 69 0 r ∧ m 69 0 r < m 15 0 13) ∧ c 10 (9 * R) 5 = m 66 0 (m 69 0 r) ∧ (0 ≤ c 10 (9 * R) 5 ∧ c 10 (9 * R) 5 ≤ 4) ∧ ∀ k, 0 ≤ k → k < c 10 (9 * R) 5 → (c 43 (9 * R) k = 0 ∧ m 70 0 (k + 4 * r) ≠ 3 ∧ m 70 0 (k + 4 * r) ≠ 1 ∧ c 46 (9 * R) k = m 76 0 (k + 4 * r) ∧ (vOk N) (m 76 0 (k + 4 * r))) ∨ (c 43 (9 * R) k = 1 ∧ m 70 0 (k + 4 * r) = 1 ∧ c 44 (9 * R) k = m 76 0 (k + 4 * r) ∧ qVr (m 76 0 (k + 4 * r)) ∧ qBt kn (m 76 0 (k + 4 * r)) = 1) ∨ (c 43 (9 * R) k = 4 ∧ m 70 0 (k + 4 * r) = 3 ∧ c 46 (9 * R) k = 0)
theorem gHd_re {r R kn : Int} {c m c_q m_q : rHp} (h : (gHd N) r R kn c m) (hc : s5 c c_q) (hm : s9 m m_q) : (gHd N) r R kn c_q m_q := by
  obtain ⟨e9, e10, e43, e44, e46⟩ := hc
  obtain ⟨f, f13⟩ := hm
  unfold gHd at h ⊢
  rw [e10, e43, e44, e46, f 66 (by decide) (by decide), f 69 (by decide) (by decide), f 70 (by decide) (by decide), f 76 (by decide) (by decide), f13]
  exact h
theorem gHd_up {r R kn : Int} {c m c_q m_q : rHp} (h : (gHd N) r R kn c m) (hc : sC c c_q) (hm : sM m m_q) : (gHd N) r R kn c_q m_q := gHd_re h (sC_5 hc) (sM_9 hm)
theorem head_made {r R kn : Int} {c m : rHp} (h : (gHd N) r R kn c m) (rl : c 6 0 7 = R) (hb : ∀ v, qVr v → qBt kn v = 1 → c 37 0 v = m 103 0 v ∧ (vOk N) (m 103 0 v)) : ∀ k, 0 ≤ k → k < 4 → hdC c k = hdM m r k ∧ (vOk N) (hdM m r k) ∧ (m 66 0 (m 69 0 r) ≤ k → hdM m r k = 0) := by
  obtain ⟨h1, h2, h3, h4, h5⟩ := h
  intro k k0 k4
  unfold hdC hdM
  rw [rl, h3]
  have v0 : (vOk N) 0 := Or.inl ⟨by decide, by decide⟩
  by_cases a : k ≥ m 66 0 (m 69 0 r)
  · rw [if_pos a, if_pos a]
    exact ⟨rfl, v0, fun _ => rfl⟩
  · rw [if_neg a, if_neg a]
    refine (fun (z : _ ∧ _) => ⟨z.1, z.2, fun y => absurd y (by omega)⟩) ?_
    unfold vGd
    rcases h5 k k0 (by omega) with ⟨a1, a2, a3, a4, a5⟩ | ⟨a1, a2, a3, a4, a5⟩ | ⟨a1, a2, a3⟩
    · rw [if_pos (show c 43 (9 * R) k ≠ 1 by rw [a1]; decide), if_pos a2, if_pos a3]
      exact ⟨a4, a5⟩
    · rw [if_neg (show ¬ c 43 (9 * R) k ≠ 1 from fun z => z a1), if_pos (show m 70 0 (k + 4 * r) ≠ 3 by rw [a2]; decide), if_neg (show ¬ m 70 0 (k + 4 * r) ≠ 1 from fun z => z a2), a3]
      exact hb _ a4 a5
    · rw [if_pos (show c 43 (9 * R) k ≠ 1 by rw [a1]; decide), if_neg (show ¬ m 70 0 (k + 4 * r) ≠ 3 from fun z => z a2)]
      exact ⟨a3, v0⟩
/-- what stands beside, while HEADS come -/
noncomputable def qD (N : Int) (r R kn : Int) (c m : rHp) : Prop := tX c m ∧ (gHd N) r R kn c m ∧ c 6 0 9 = 0 ∧ c 6 0 10 = m 15 0 76 ∧ c 6 0 8 = r ∧ 0 ≤ r ∧ m 71 0 r = 0
theorem tX_fr {c m c_q m_q : rHp} (h : tX c m) (hc : ∀ K : Nat, 29 ≤ K ∧ K ≤ 32 → c_q K = c K) (hm : ∀ K : Nat, K = 66 ∨ (93 ≤ K ∧ K ≤ 101) → m_q K = m K) (f71 : m_q 15 0 71 = m 15 0 71) (f13 : m_q 15 0 13 = m 15 0 13) : tX c_q m_q := by
  unfold tX cR cH at h ⊢
  rw [hc 29 (by decide), hc 30 (by decide), hc 31 (by decide), hc 32 (by decide), hm 66 (by decide), hm 93 (by decide), hm 94 (by decide), hm 95 (by decide), hm 96 (by decide), hm 97 (by decide), hm 98 (by decide), hm 99 (by decide), hm 100 (by decide), hm 101 (by decide), f71, f13]
  exact h
theorem wJQ_d {m0 : rHp} {r R kn : Int} : wJQ (j72 m0) ((qD N) r R kn) := by
  refine ⟨fun m m_q h e => ?_, fun c c_q m m_q h ec em => ?_⟩
  · unfold j72 at h ⊢
    rw [e.1 73 (by decide) (by decide) (by decide), e.1 77 (by decide) (by decide) (by decide), e.1 78 (by decide) (by decide) (by decide)]
    exact h
  · obtain ⟨h1, h2, h3, h4, h5, h6, h7⟩ := h
    refine ⟨tX_fr h1 (fun K z => ec.1 K (by omega) (by omega) (by omega)) (fun K z => em.1 K (by omega) (by omega) (by omega)) (em.2 71 (by decide) (by decide)) (em.2 13 (by decide) (by decide)), gHd_up h2 (eC_sC ec) (eM_sM em), ?_, ?_, ?_, h6, ?_⟩
    · rw [ec.2 9 (by decide) (by decide)]; exact h3
    · rw [ec.2 10 (by decide) (by decide), em.2 76 (by decide) (by decide)]; exact h4
    · rw [ec.2 8 (by decide) (by decide)]; exact h5
    · rw [em.1 71 (by decide) (by decide) (by decide)]; exact h7
theorem fn68_eq {r : Int} {m : rHp} : fn68 [r] m = (0, 0, (fn57 [m 69 0 r, r] (mk4 102 (hdM m r) m)).2.2) := by
  unfold fn68
  simp only [zLet, List.getD_cons_zero, fn67_eq]
theorem z72_arr {m0 m : rHp} {r : Int} (h : m 15 0 77 = 0) : zLoop (en72 m0) (0, [r, m0 73 0 r], m) = zLoop (en72 m0) (1, [r, m0 73 0 r - 1, m0 73 0 r - 1 + 1 + 8 * r], (fn68 [r] m).2.2) := by
  rw [show m0 73 0 r - 1 + 1 = m0 73 0 r by omega, show m0 73 0 r - 1 = m0 73 0 r + -1 by omega]
  refine zLoop_inl ?_
  unfold en72
  simp only [zLet, List.getD_cons_zero, List.getD_cons_succ, ↓reduceIte]
  rw [if_neg (fun z => z h), if_neg (fun z => z rfl)]
theorem z72_bad {m0 m : rHp} {r g x : Int} (h : m 15 0 77 ≠ 0) : zLoop (en72 m0) (1, [r, g, x], m) = (0, 0, m) := by
  refine zLoop_inr ?_
  unfold en72
  simp only [zLet, List.getD_cons_zero, List.getD_cons_succ, ↓reduceIte, Nat.one_ne_zero]
  by_cases b : g < 0
  · rw [if_pos b]
  · rw [if_neg b, if_pos h]
theorem arr_d {m0 : rHp} {r R : Int} {kb : Int → Int} : (wSp N) (j72 m0) ((qD N) r R (kb (m0 73 0 r))) r R (m0 73 0 r) kb (fun g m => zLoop (en72 m0) (0, [r, g], m)) (fun g m => zLoop (en72 m0) (1, [r, g, g + 1 + 8 * r], m)) (m0 73 0 r) (fn245 []) := by
  intro c m h
  show (wOut N) (j72 m0) ((qD N) r R (kb (m0 73 0 r))) r R (m0 73 0 r) kb (fun g m => zLoop (en72 m0) (1, [r, g, g + 1 + 8 * r], m)) (m0 73 0 r) c m (fn245 [] c) (zLoop (en72 m0) (0, [r, m0 73 0 r], m))
  rw [z72_arr h.bad, fn68_eq]
  obtain ⟨q1, q2, q3, q4, q5, q6, q7⟩ := h.qq
  have rl := h.st.rl
  have hn := h.st.n2
  have hac := h.st.ac
  have hm := head_made q2 rl h.bnd
  obtain ⟨g1, g2, g3, g4, g5⟩ := q2
  have e7 := h.tt.1
  have n71 := h.tt.2.2.1.1
  generalize hc1 : mk4 33 (hdC c) c = c1
  generalize hm1 : mk4 102 (hdM m r) m = m1
  have cg : ∀ K : Nat, K ≠ 33 → c1 K = c K := fun K hK => by rw [← hc1, mk4_grp hK]
  have mg : ∀ K : Nat, K ≠ 102 → m1 K = m K := fun K hK => by rw [← hm1, mk4_grp hK]
  have hd : ∀ k, 0 ≤ k → k < 4 → c1 33 0 k = m1 102 0 k := fun k k0 k4 => by
    rw [← hc1, ← hm1, mk4_in k0 k4, mk4_in k0 k4]
    exact (hm k k0 k4).1
  have hz : ∀ k, 0 ≤ k → k < 4 → m1 66 0 (m 69 0 r) ≤ k → m1 102 0 k = 0 := fun k k0 k4 hk => by
    rw [mg 66 (by decide)] at hk
    rw [← hm1, mk4_in k0 k4]
    exact (hm k k0 k4).2.2 hk
  have hT1 : tT c1 m1 := tT_fr h.tt (fun K z => cg K (by omega)) (fun K z => mg K (by omega)) (by rw [mg 15 (by decide)]) (by rw [mg 15 (by decide)])
  have hX1 : tX c1 m1 := tX_fr q1 (fun K z => cg K (by omega)) (fun K z => mg K (by omega)) (by rw [mg 15 (by decide)]) (by rw [mg 15 (by decide)])
  have c47 : c1 4 0 7 = c 4 0 7 := by rw [cg 4 (by decide)]
  have m171 : m1 15 0 71 = m 15 0 71 := by rw [mg 15 (by decide)]
  have f206 := fn206_eq (p := m 69 0 r) (n := c1 4 0 7) (c := c1) (by omega) hT1.2.1.2.2
  have f56 := fn56_eq (p := m 69 0 r) (m := m1) hT1.2.2.1 (by rw [mg 15 (by decide)]; exact g2)
  have fe := found_two (p := m 69 0 r) hT1 (fun t t0 t1 => (hX1.2 t t0 t1).2) hd (by rw [mg 66 (by decide)]; omega) hz
  rw [← fe] at f56
  generalize pFd (pNd c1 (m 69 0 r)) (c1 4 0 7) = v at f206 f56
  have f233 := fn233_eq (rd := c 6 0 10) (ru := c 6 0 8) f206 (by omega)
  have f57 := fn57_eq (ru := r) f56 hz
  -- all the rest of what a WAY hangs on
  have back : ∀ (c2 m2 : rHp), (∀ K : Nat, K = 1 ∨ K = 6 ∨ K = 9 ∨ K = 10 ∨ K = 18 ∨ K = 19 ∨ K = 20 ∨ K = 37 ∨ K = 38 ∨ K = 40 ∨ K = 43 ∨ K = 44 ∨ K = 46 → c2 K = c K) → (∀ K : Nat, (59 ≤ K ∧ K ≤ 92) ∨ K = 103 ∨ K = 104 → m2 K = m K) → (∀ j, j ≠ 71 → m2 15 0 j = m 15 0 j) → m 15 0 71 ≤ m2 15 0 71 → tX c2 m2 → tT c2 m2 → (∀ t k, 0 ≤ t → t < m2 15 0 71 → 0 ≤ k → k < 4 → (vOk N) (m2 99 0 (k + 4 * t))) → tG c c2 → (wP N) (j72 m0) ((qD N) r R (kb (m0 73 0 r))) r R (m0 73 0 r) kb (m0 73 0 r) c m c2 m2 := by
    intro c2 m2 hc hmm h15 hle hX hT hv hG
    refine wP_arr h hc hmm (fun j hj => h15 j (by omega)) hle ?_ ?_ hT hv hG
    · have := h.jm
      unfold j72 at this ⊢
      rw [hmm 73 (by decide), hmm 77 (by decide), hmm 78 (by decide)]
      exact this
    · refine ⟨hX, gHd_up h.qq.2.1 ⟨hc 9 (by decide), hc 10 (by decide), hc 43 (by decide), hc 44 (by decide), hc 46 (by decide), fun j _ _ => by rw [hc 6 (by decide)]⟩ ⟨fun K a b => hmm K (Or.inl ⟨a, b⟩), h15 13 (by decide), h15 76 (by decide), fun j a b => h15 j (by omega)⟩, ?_, ?_, ?_, q6, ?_⟩
      · rw [hc 6 (by decide)]; exact q3
      · rw [hc 6 (by decide), h15 76 (by decide)]; exact q4
      · rw [hc 6 (by decide)]; exact q5
      · rw [hmm 71 (by decide)]; exact q7
  have e245 : ∀ (o : Nat) (v2 : Int) (c2 : rHp), fn244 [] c = (o, v2, c2) → fn245 [] c = if o = 0 then (0, 0, c2) else (1, 0, c2) := fun o v2 c2 e => by
    unfold fn245
    simp only [zLet, e]
  by_cases bv : v < 0
  · rw [if_pos bv] at f233 f57
    by_cases bn : c1 4 0 7 < 2000
    · -- the HEAD is new
      rw [if_pos bn] at f233
      rw [if_pos (show m1 15 0 71 ≠ 2000 by omega)] at f57
      have c244 := fn244_d (c := c) (o := 0) (v := 1) q3 (by rw [rl, g1, hc1]; exact f233)
      rw [if_pos rfl, if_pos (Int.le_refl 1)] at c244
      have l57 := en57_lp (p := m 69 0 r) (ru := r) (m := m1) q6 (by rw [mg 71 (by decide)]; exact q7) _ 0 (mNew (m 69 0 r) r m1) (Nat.le_refl _) (Int.le_refl 0) (by rw [mg 73 (by decide), hn]; exact h.st.n8.1) (by rw [mNew_97, if_pos rfl]; rfl)
      obtain ⟨m2, k1, k2, k3, k4, k5, k6⟩ := l57
      rw [k1] at f57
      rw [mg 73 (by decide), mg 77 (by decide), hn, m171] at k4
      rw [mg 73 (by decide), mg 77 (by decide), mg 104 (by decide), hn, m171] at k6
      rw [mg 73 (by decide), mg 77 (by decide), hn, m171] at k5
      rw [m171] at k3
      have come := come_new (rd := c 6 0 10) (ru := r) hT1 hX1.1 (by rw [mg 15 (by decide)]; exact g2) hd (by omega) k2
      rw [c47] at c244 come f233
      have n8 := h.st.n8
      have acn := cn_ge (p := fun h => decide (m 77 0 (h + 8 * r) = 0)) n8.1
      have act := cn_top (p := fun h => decide (m 77 0 (h + 8 * r) = 0)) n8.1
      have ac9 : c 9 (c 6 0 7) 3 = cn (fun h => decide (m 77 0 (h + 8 * r) = 0)) (m0 73 0 r) := by rw [rl]; exact hac
      rw [ac9, q5] at c244
      generalize hA : cn (fun h => decide (m 77 0 (h + 8 * r) = 0)) (m0 73 0 r) = A at *
      generalize hc2 : zCpy (rUp (uAd (m 69 0 r) (c 6 0 10) r (c 4 0 7) c1) 32 0 (c 4 0 7) A) 38 0 0 31 0 (8 * c 4 0 7) A = c2 at c244
      have c2g : ∀ K : Nat, K ≠ 31 → K ≠ 32 → c2 K = uAd (m 69 0 r) (c 6 0 10) r (c 4 0 7) c1 K := fun K a b => by rw [← hc2, zCpy_grp a, rUp_grp b]
      have c2s : ∀ K : Nat, K = 1 ∨ K = 6 ∨ K = 9 ∨ K = 10 ∨ K = 18 ∨ K = 19 ∨ K = 20 ∨ K = 37 ∨ K = 38 ∨ K = 40 ∨ K = 43 ∨ K = 44 ∨ K = 46 → c2 K = c K := fun K z => by
        rw [c2g K (by omega) (by omega), uAd_grp (by omega) (by omega) (by omega), cg K (by omega)]
      have m2s : ∀ K : Nat, (59 ≤ K ∧ K ≤ 92) ∨ K = 103 ∨ K = 104 → m2 K = m K := fun K z => by
        rw [k2 K (by omega) (by omega), mNew_grp (by omega) (by omega), mg K (by omega)]
      have m215 : ∀ j, m2 15 0 j = if j = 71 then m 15 0 71 + 1 else m 15 0 j := fun j => by
        rw [k2 15 (by decide) (by decide), mNew_15, mg 15 (by decide)]
      have hT2 : tT c2 m2 := tT_fr come.1 (fun K z => c2g K (by omega) (by omega)) (fun _ _ => rfl) rfl rfl
      refine ⟨0, c2, by rw [e245 _ _ _ c244, if_pos rfl], Or.inl ⟨rfl, m2, by rw [f57], ?_⟩⟩
      refine back c2 m2 c2s m2s (fun j hj => by rw [m215, if_neg hj]) (by rw [m215, if_pos rfl]; omega) ?_ hT2 ?_ ?_
      · refine ⟨come.2, fun t t0 t1 => ?_⟩
        rw [m215, if_pos rfl] at t1
        rw [c2g 29 (by decide) (by decide), c2g 30 (by decide) (by decide), k2 94 (by decide) (by decide), k2 95 (by decide) (by decide), k2 66 (by decide) (by decide), k2 93 (by decide) (by decide), k2 99 (by decide) (by decide), uAd_28.2.1, uAd_28.2.2.1, rUp_in, rUp_in, mNew_94, mNew_95, mNew_93, mNew_grp (K := 66) (by decide) (by decide), m171, mg 66 (by decide)]
        by_cases b : t = m 15 0 71
        · rw [if_pos (show t = c 4 0 7 by omega), if_pos (show t = c 4 0 7 by omega), if_pos b, if_pos b, if_pos b]
          have c32 : c2 32 0 t = A := by
            rw [← hc2, zCpy_grp (by decide), rUp_in, if_pos (show t = c 4 0 7 by omega)]
          refine ⟨⟨?_, rfl, ?_, ?_, fun k k0 k1 => ?_⟩, fun k k0 k4 hk => ?_⟩
          · rw [q4, mg 15 (by decide)]
          · rw [c32, b, k4]
          · rw [c32]; omega
          · rw [c32] at k1
            -- the ATOM of that order
            have ex : ∀ (d : Nat), k < cn (fun h => decide (m 77 0 (h + 8 * r) = 0)) (d : Int) → ∃ x, 0 ≤ x ∧ x < (d : Int) ∧ m 77 0 (x + 8 * r) = 0 ∧ cn (fun h => decide (m 77 0 (h + 8 * r) = 0)) x = k := by
              intro d
              induction d with
              | zero => intro hd0; have : cn (fun h => decide (m 77 0 (h + 8 * r) = 0)) ((0 : Nat) : Int) = 0 := rfl; omega
              | succ d ih =>
                intro hd0
                rw [show ((d + 1 : Nat) : Int) = (d : Int) + 1 by omega, cn_s (by omega)] at hd0
                by_cases bk : k < cn (fun h => decide (m 77 0 (h + 8 * r) = 0)) (d : Int)
                · obtain ⟨x, x0, x1, x2, x3⟩ := ih bk
                  exact ⟨x, x0, by omega, x2, x3⟩
                · by_cases bd : m 77 0 ((d : Int) + 8 * r) = 0
                  · rw [if_pos (show (fun h => decide (m 77 0 (h + 8 * r) = 0)) (d : Int) = true from decide_eq_true bd)] at hd0
                    exact ⟨d, by omega, by omega, bd, by omega⟩
                  · rw [if_neg (show ¬ (fun h => decide (m 77 0 (h + 8 * r) = 0)) (d : Int) = true from fun z => bd (of_decide_eq_true z))] at hd0
                    omega
            obtain ⟨x, x0, x1, x2, x3⟩ := ex (m0 73 0 r).toNat (by rw [show (((m0 73 0 r).toNat : Nat) : Int) = m0 73 0 r by omega, hA]; exact k1)
            rw [show (((m0 73 0 r).toNat : Nat) : Int) = m0 73 0 r by omega] at x1
            have k6x := k6 x x0 x1 x2
            rw [x3] at k6x
            have od := h.st.od x x0 x1 x2
            rw [x3] at od
            have tk := (h.tkn x x0 x1 x2).1
            rw [od] at tk
            rw [b, k6x, ← hc2, zCpy_in (by omega) (by omega), rUp_grp (by decide), uAd_grp (by decide) (by decide) (by decide), cg 38 (by decide), show 0 + (k + 8 * m 15 0 71 - 8 * c 4 0 7) = k by omega]
            exact tk
          · rw [b, show k + 4 * m 15 0 71 = k + 4 * m1 15 0 71 by rw [m171], mNew_new k0 k4]
            exact hz k k0 k4 (by rw [mg 66 (by decide)]; exact hk)
        · rw [if_neg (show ¬ t = c 4 0 7 by omega), if_neg (show ¬ t = c 4 0 7 by omega), if_neg b, if_neg b, if_neg b]
          obtain ⟨⟨a1, a2, a3, a4, a5⟩, a6⟩ := hX1.2 t t0 (by omega)
          rw [mg 66 (by decide)] at a6
          have c32 : c2 32 0 t = c1 32 0 t := by
            rw [← hc2, zCpy_grp (by decide), rUp_in, if_neg (show ¬ t = c 4 0 7 by omega), uAd_28.2.2.2, rUp_in, if_neg (show ¬ t = c 4 0 7 by omega)]
          rw [c32]
          refine ⟨⟨a1, a2, ?_, a4, fun k k0 k1 => ?_⟩, fun k k0 k4_q hk => by rw [mNew_old (by omega)]; exact a6 k k0 k4_q hk⟩
          · rw [k3 t b, mNew_97, m171, if_neg b]; exact a3
          · have j1 : ¬ (8 * c 4 0 7 ≤ k + 8 * t ∧ k + 8 * t < 8 * c 4 0 7 + A) := by omega
            have j2 : m2 98 0 (k + 8 * t) = mNew (m 69 0 r) r m1 98 0 (k + 8 * t) := k5 _ (fun x x0 x1 x2 x3 => by
              have := cn_ge (p := fun h => decide (m 77 0 (h + 8 * r) = 0)) x0
              omega)
            rw [← hc2, zCpy_off j1, rUp_grp (by decide), uAd_grp (by decide) (by decide) (by decide), j2, mNew_grp (by decide) (by decide)]
            exact a5 k k0 k1
      · intro t k t0 t1 k0 k4_q
        rw [m215, if_pos rfl] at t1
        rw [k2 99 (by decide) (by decide)]
        by_cases b : t = m 15 0 71
        · rw [b, show k + 4 * m 15 0 71 = k + 4 * m1 15 0 71 by rw [m171], mNew_new k0 k4_q, ← hm1, mk4_in k0 k4_q]
          exact (hm k k0 k4_q).2.1
        · rw [mNew_old (by omega), mg 99 (by decide)]
          exact h.vt t k t0 (by omega) k0 k4_q
      · refine ⟨by rw [c2g 4 (by decide) (by decide), uAd_4, if_pos rfl]; omega, fun t t0 t1 => ?_⟩
        rw [c2g 28 (by decide) (by decide), c2g 27 (by decide) (by decide), uAd_28.1, rUp_in, if_neg (by omega), cg 28 (by decide)]
        refine ⟨rfl, fun k k0 k4_q => ?_⟩
        rw [uAd_old (by omega), cg 27 (by decide)]
    · -- one too many
      rw [if_neg bn] at f233
      rw [if_neg (show ¬ m1 15 0 71 ≠ 2000 by omega)] at f57
      have c244 := fn244_d (c := c) (o := 1) (v := 0) q3 (by rw [rl, g1, hc1]; exact f233)
      rw [if_neg (by decide)] at c244
      refine ⟨1, c1, by rw [e245 _ _ _ c244, if_neg (by decide)], Or.inr (Or.inl ⟨rfl, rUp m1 15 0 77 3, ?_, rUp_at⟩)⟩
      rw [f57]
      exact z72_bad (show (rUp m1 15 0 77 3) 15 0 77 ≠ 0 by rw [rUp_at]; decide)
  · -- it is there
    rw [if_neg bv] at f233 f57
    have c244 := fn244_d (c := c) (o := 0) (v := 0) q3 (by rw [rl, g1, hc1]; exact f233)
    rw [if_pos rfl, if_neg (show ¬ (1 : Int) ≤ 0 by decide)] at c244
    refine ⟨0, c1, by rw [e245 _ _ _ c244, if_pos rfl], Or.inl ⟨rfl, m1, by rw [f57], ?_⟩⟩
    refine back c1 m1 (fun K z => cg K (by omega)) (fun K z => mg K (by omega)) (fun j _ => by rw [mg 15 (by decide)]) (by omega) hX1 hT1 ?_ ?_
    · rw [mg 99 (by decide), mg 15 (by decide)]
      exact h.vt
    · unfold tG
      rw [cg 4 (by decide), cg 28 (by decide), cg 27 (by decide)]
      exact ⟨Int.le_refl _, fun _ _ _ => ⟨rfl, fun _ _ _ => rfl⟩⟩
