/-! ===== an ATOM'S TUPLES taken, by both ===== -/
variable {N : Int}
theorem pIx_all2 {q : Int → Bool} {n i : Int} (hi : i ≤ n) : n ≤ pIx q n i ↔ ∀ j, i ≤ j → j < n → q j = true :=
  ⟨fun h j a b => pIx_in (q := q) (n := n) (i := i) a (by omega), fun h => by rw [pIx_end hi h]; exact Int.le_refl _⟩
theorem asks_two {J : rHp → Prop} {Q : rHp → rHp → Prop} {r R n : Int} {kb : Int → Int} {g : Int} {c m : rHp} (h : (wR N) J Q r R n kb g c m) (g0 : 0 ≤ g) (g1 : g < n) (hk : m 77 0 (g + 8 * r) = 0) : pAs m r g = true ↔ 1 < c 6 0 10 ∧ c 6 0 13 = 0 ∧ c 10 (9 * R + (g + 1)) 10 = c 9 R 3 - 1 := by
  unfold pAs
  rw [Bool.and_eq_true, Bool.and_eq_true, decide_eq_true_eq, decide_eq_true_eq, decide_eq_true_eq, h.st.n2, h.ask.1]
  have hA : n ≤ pIx (fun h => decide (m 77 0 (h + 8 * r) ≠ 0)) n (g + 1) ↔ c 10 (9 * R + (g + 1)) 10 = c 9 R 3 - 1 := by
    rw [pIx_all2 (by omega), h.st.ac, h.st.od g g0 g1 hk]
    have e := cn_s (p := fun h => decide (m 77 0 (h + 8 * r) = 0)) g0
    rw [if_pos (show (fun h => decide (m 77 0 (h + 8 * r) = 0)) g = true from decide_eq_true hk)] at e
    have k := cn_none (p := fun h => decide (m 77 0 (h + 8 * r) = 0)) (g := g + 1) (x := n) (by omega) (by omega)
    constructor
    · intro a
      have := k.2 (fun j j0 j1 => decide_eq_false (of_decide_eq_true (a j j0 j1)))
      omega
    · intro a j j0 j1
      have := k.1 (by omega) j j0 j1
      exact decide_eq_true (of_decide_eq_false this)
  have hB : 1 < c 6 0 10 → (g ≤ pIx (fun h => !(decide (m 77 0 (h + 8 * r) = 0) && decide (m 15 0 82 ≤ m 104 0 h ∧ m 104 0 h < m 15 0 83))) g 0 ↔ c 6 0 13 = 0) := by
    intro y
    obtain ⟨a1, a2, a3⟩ := h.ask.2 y
    rw [pIx_all2 g0, h.fr]
    have k := cn_none (p := fun h => decide (m 77 0 (h + 8 * r) = 0) && decide (c 6 0 12 ≤ m 104 0 h)) (g := 0) (x := g) (Int.le_refl 0) g0
    rw [cn_0] at k
    rw [k]
    have e : ∀ j, 0 ≤ j → j < g → (decide (m 77 0 (j + 8 * r) = 0) && decide (m 15 0 82 ≤ m 104 0 j ∧ m 104 0 j < m 15 0 83)) = (decide (m 77 0 (j + 8 * r) = 0) && decide (c 6 0 12 ≤ m 104 0 j)) := by
      intro j j0 j1
      by_cases b : m 77 0 (j + 8 * r) = 0
      · obtain ⟨_, b2, b3⟩ := h.tkn j j0 j1 b
        rw [show decide (m 15 0 82 ≤ m 104 0 j ∧ m 104 0 j < m 15 0 83) = decide (c 6 0 12 ≤ m 104 0 j) from decide_eq_decide.2 ⟨fun z => by omega, fun z => ⟨by omega, by omega⟩⟩]
      · rw [decide_eq_false b, Bool.false_and, Bool.false_and]
    constructor
    · intro a j j0 j1
      have := a j j0 j1
      rw [e j j0 j1, Bool.not_eq_true'] at this
      exact this
    · intro a j j0 j1
      have := a j j0 j1
      show (!(decide (m 77 0 (j + 8 * r) = 0) && decide (m 15 0 82 ≤ m 104 0 j ∧ m 104 0 j < m 15 0 83))) = true
      rw [e j j0 j1, this]
      rfl
  constructor
  · rintro ⟨y, a, b⟩
    exact ⟨y, (hB y).1 b, hA.1 a⟩
  · rintro ⟨y, b, a⟩
    exact ⟨y, hA.2 a, (hB y).2 b⟩
theorem pTk_f {m : rHp} {q t : Int} {a : Bool} (h : pFt m q t = false) : pTk m q a t = false := by
  unfold pFt at h
  unfold pTk
  by_cases b : m 93 0 t = m 78 0 q
  · rw [decide_eq_true b, Bool.true_and] at h
    rw [h, Bool.and_false, Bool.and_false]
  · rw [decide_eq_false b, Bool.false_and]
theorem pTk_old {m : rHp} {q t : Int} {a : Bool} (ha : a = true) (h : ¬ (m 15 0 82 ≤ t ∧ t < m 15 0 83)) : pTk m q a t = false := by
  unfold pTk
  rw [ha, decide_eq_false h]
  simp
theorem pTk_t {m : rHp} {q t : Int} {a : Bool} (h : pFt m q t = true) (ha : a = true → m 15 0 82 ≤ t ∧ t < m 15 0 83) : pTk m q a t = true := by
  unfold pFt at h
  rw [Bool.and_eq_true] at h
  unfold pTk
  rw [h.1, h.2, Bool.true_and, Bool.and_true]
  cases a with
  | false => rfl
  | true => rw [decide_eq_true (ha rfl)]; rfl
theorem zTk_no {Z0 Z1 : Int → rHp → zR} {r g i : Int} {m : rHp} (hc : cM m) (hl : m 15 0 81 ≤ m 15 0 71) (i0 : 0 ≤ i) (i1 : i ≤ m 15 0 71) (h : ∀ j, i ≤ j → j < m 15 0 81 → pTk m (g + 8 * r) (pAs m r g) j = false) : zTk Z0 Z1 r g m (pTp m (m 78 0 (g + 8 * r)) i) = Z1 (g - 1) m := by
  have e : m 15 0 81 ≤ pIx (fun t => !pTk m (g + 8 * r) (pAs m r g) t) (m 15 0 81) i := by
    by_cases b : i ≤ m 15 0 81
    · rw [pIx_end b (fun j j0 j1 => by show (!pTk m (g + 8 * r) (pAs m r g) j) = true; rw [h j j0 j1]; rfl)]
      exact Int.le_refl _
    · rw [pIx_no (fun z => by omega)]
      omega
  unfold zTk
  rw [fn62_eq hc hl i0 i1, if_pos e]
  exact if_neg (show ¬ ((-1 : Int) ≥ 0) by decide)
theorem zTk_hit {Z0 Z1 : Int → rHp → zR} {r g i t : Int} {m : rHp} (hc : cM m) (hl : m 15 0 81 ≤ m 15 0 71) (i0 : 0 ≤ i) (i1 : i ≤ m 15 0 71) (ti : i ≤ t) (tL : t < m 15 0 81) (hn : ∀ j, i ≤ j → j < t → pTk m (g + 8 * r) (pAs m r g) j = false) (ht : pTk m (g + 8 * r) (pAs m r g) t = true) :
    zTk Z0 Z1 r g m (pTp m (m 78 0 (g + 8 * r)) i) = if m 15 0 72 + 1 ≤ 50000 then Z0 (g + 1) (fn63 [g + 8 * r, t] (rUp (rUp m 15 0 72 (m 15 0 72 + 1)) 104 0 g t)).2.2 else Z0 (g + 1) (fn63 [g + 8 * r, t] (rUp (rUp (rUp m 15 0 72 (m 15 0 72 + 1)) 15 0 77 2) 104 0 g t)).2.2 := by
  have e : pIx (fun t => !pTk m (g + 8 * r) (pAs m r g) t) (m 15 0 81) i = t := by
    rw [pIx_skip _ i t (Nat.le_refl _) ti (by omega) (fun j j0 j1 => by show (!pTk m (g + 8 * r) (pAs m r g) j) = true; rw [hn j j0 j1]; rfl)]
    refine pIx_no (fun z => ?_)
    have z2 : (!pTk m (g + 8 * r) (pAs m r g) t) = true := z.2
    rw [ht] at z2
    exact absurd z2 (by decide)
  unfold zTk
  rw [fn62_eq hc hl i0 i1, e, if_neg (show ¬ m 15 0 81 ≤ t by omega)]
  exact if_pos (show t ≥ 0 by omega)
theorem gTe_end {F : rHp → zR} {Y : Int → rHp → Int} {k met t l fa : Int} {c0 c : rHp} (h : t < 0 ∨ t ≥ c0 6 0 11) : gTe F Y k c0 (0, [met, t, l, fa], c) = .inr (0, 0, c) := by
  unfold gTe
  simp only [zLet, List.getD_cons_zero, List.getD_cons_succ, ↓reduceIte]
  rcases h with h | h
  · rw [if_pos h]
  · by_cases b : t < 0
    · rw [if_pos b]
    · rw [if_neg b, if_pos h]
theorem gTe_skip {F : rHp → zR} {Y : Int → rHp → Int} {k met t l fa x : Int} {c0 c : rHp} (t0 : 0 ≤ t) (t1 : t < c0 6 0 11) (m1 : met < 2000) (tl : t < l) (h : fn227 [9 * c0 6 0 7 + k, t] c = (0, x, c)) : gTe F Y k c0 (0, [met, t, l, fa], c) = .inl (0, [met + 1, x, l, fa], c) := by
  unfold gTe
  simp only [zLet, List.getD_cons_zero, List.getD_cons_succ, ↓reduceIte, h]
  rw [if_neg (show ¬ t < 0 by omega), if_neg (show ¬ t ≥ c0 6 0 11 by omega), if_neg (show ¬ met ≥ 2000 by omega), if_pos tl]
theorem gTe_no {F : rHp → zR} {Y : Int → rHp → Int} {k met t l fa x : Int} {c0 c c1 : rHp} (t0 : 0 ≤ t) (t1 : t < c0 6 0 11) (m1 : met < 2000) (tl : ¬ t < l) (h1 : fn225 [9 * c0 6 0 7 + k, t] c = (0, 0, c1)) (h2 : fn227 [9 * c0 6 0 7 + k, t] c1 = (0, x, c1)) : gTe F Y k c0 (0, [met, t, l, fa], c) = .inl (0, [met + 1, x, l, fa], c1) := by
  unfold gTe
  simp only [zLet, List.getD_cons_zero, List.getD_cons_succ, ↓reduceIte, h1, h2]
  rw [if_neg (show ¬ t < 0 by omega), if_neg (show ¬ t ≥ c0 6 0 11 by omega), if_neg (show ¬ met ≥ 2000 by omega), if_neg tl, if_neg (show ¬ (1 : Int) ≤ 0 by decide)]
theorem gTe_thr {F : rHp → zR} {Y : Int → rHp → Int} {k met t l fa : Int} {c0 c c1 c2 : rHp} (t0 : 0 ≤ t) (t1 : t < c0 6 0 11) (m1 : met < 2000) (tl : ¬ t < l) (h1 : fn225 [9 * c0 6 0 7 + k, t] c = (0, 1, c1)) (h2 : fn232 [9 * c0 6 0 7 + k, t] c1 = (4, 0, c2)) : gTe F Y k c0 (0, [met, t, l, fa], c) = .inr (4, 0, c2) := by
  unfold gTe
  simp only [zLet, List.getD_cons_zero, List.getD_cons_succ, ↓reduceIte, h1, h2]
  rw [if_neg (show ¬ t < 0 by omega), if_neg (show ¬ t ≥ c0 6 0 11 by omega), if_neg (show ¬ met ≥ 2000 by omega), if_neg tl, if_pos (Int.le_refl 1), if_neg (show ¬ (4 : Nat) = 0 by decide)]
theorem gTe_go {F : rHp → zR} {Y : Int → rHp → Int} {k met t l fa v : Int} {o : Nat} {c0 c c1 c2 c3 : rHp} (t0 : 0 ≤ t) (t1 : t < c0 6 0 11) (m1 : met < 2000) (tl : ¬ t < l) (h1 : fn225 [9 * c0 6 0 7 + k, t] c = (0, 1, c1)) (h2 : fn232 [9 * c0 6 0 7 + k, t] c1 = (0, 0, c2)) (h3 : F (rUp c2 6 0 13 (if t < c0 6 0 12 then c 6 0 13 else zF2 .iadd (c 6 0 13) 1)) = (o, v, c3)) :
    gTe F Y k c0 (0, [met, t, l, fa], c) = if o = 0 then .inl (0, [met + 1, (fn227 [9 * c0 6 0 7 + k, t] (rUp c3 6 0 13 (if t < c0 6 0 12 then Y (c 6 0 13) c3 else zF2 .isub (Y (zF2 .iadd (c 6 0 13) 1) c3) 1))).2.1, l, fa], (fn227 [9 * c0 6 0 7 + k, t] (rUp c3 6 0 13 (if t < c0 6 0 12 then Y (c 6 0 13) c3 else zF2 .isub (Y (zF2 .iadd (c 6 0 13) 1) c3) 1))).2.2) else if o = 1 then .inr (1, 0, c3) else .inr (4, 0, c3) := by
  unfold gTe
  simp only [zLet, List.getD_cons_zero, List.getD_cons_succ, ↓reduceIte, h1, h2]
  rw [if_neg (show ¬ t < 0 by omega), if_neg (show ¬ t ≥ c0 6 0 11 by omega), if_neg (show ¬ met ≥ 2000 by omega), if_neg tl, if_pos (Int.le_refl 1)]
  by_cases b : t < c0 6 0 12
  · rw [if_pos b] at h3
    simp only [if_pos b, h3]
  · rw [if_neg b] at h3
    simp only [if_neg b, h3]
theorem iadd_fin : ∀ k : Fin 16, zF2 .iadd (k.val : Int) 1 = (k.val : Int) + 1 ∧ zF2 .isub ((k.val : Int) + 1) 1 = (k.val : Int) := by decide +kernel
theorem iadd_s {a : Int} (h0 : 0 ≤ a) (h1 : a < 16) : zF2 .iadd a 1 = a + 1 ∧ zF2 .isub (a + 1) 1 = a := by
  have := iadd_fin ⟨a.toNat, by omega⟩
  rw [show (((⟨a.toNat, by omega⟩ : Fin 16).val : Nat) : Int) = a from by show ((a.toNat : Nat) : Int) = a; omega] at this
  exact this
theorem fn232_eq {G t : Int} {c : rHp} : fn232 [G, t] c = if c 6 0 0 + 1 ≤ 50000 then (0, 0, rUp (rUp c 6 0 0 (c 6 0 0 + 1)) 38 0 (c 10 G 10) t) else (4, 0, rUp c 6 0 0 (c 6 0 0 + 1)) := by
  unfold fn232
  simp only [zLet, List.getD_cons_zero, List.getD_cons_succ]
theorem fn63_on {m mm : rHp} {q t : Int} (e : ∀ K, K ≠ 15 → K ≠ 104 → mm K = m K) (h4 : 0 ≤ m 66 0 (m 78 0 q)) (hs : ∀ i k, 0 ≤ i → i < k → k < m 66 0 (m 78 0 q) → m 80 0 (i + 4 * q) = 1 → m 80 0 (k + 4 * q) = 1 → m 81 0 (i + 4 * q) = m 81 0 (k + 4 * q) → m 99 0 (i + 4 * t) = m 99 0 (k + 4 * t)) :
    ∃ m_q, (fn63 [q, t] mm).2.2 = m_q ∧ (∀ K, K ≠ 103 → m_q K = mm K) ∧ (∀ v, (∀ k, 0 ≤ k → k < m 66 0 (m 78 0 q) → m 80 0 (k + 4 * q) = 1 → m 81 0 (k + 4 * q) ≠ v) → m_q 103 0 v = m 103 0 v) ∧ ∀ k, 0 ≤ k → k < m 66 0 (m 78 0 q) → m 80 0 (k + 4 * q) = 1 → m_q 103 0 (m 81 0 (k + 4 * q)) = m 99 0 (k + 4 * t) := by
  have x := fn63_eq (m := mm) (q := q) (t := t)
  rw [e 66 (by decide) (by decide), e 78 (by decide) (by decide), e 80 (by decide) (by decide), e 81 (by decide) (by decide), e 99 (by decide) (by decide), e 103 (by decide) (by decide)] at x
  obtain ⟨m_q, k1, k2, k3, k4, k5⟩ := x h4 hs
  exact ⟨m_q, by rw [k1], k2, k4, k5⟩
theorem wP_rfl {J : rHp → Prop} {Q : rHp → rHp → Prop} {r R n : Int} {kb : Int → Int} {g : Int} {c m : rHp} (h : (wR N) J Q r R n kb g c m) : (wP N) J Q r R n kb g c m c m :=
  ⟨h, fun _ _ _ => ⟨rfl, rfl⟩, fun _ _ _ _ => rfl, eC_tG eC_rfl, eC_sC eC_rfl, eM_sM eM_rfl, e_sK eC_rfl eM_rfl⟩
/-- a VARIABLE that is KNOWN is not one that the ATOM binds -/
theorem known_kept {c m : rHp} {G q v : Int} (hg : gAt c m G q) (h : qBt (m 79 0 q) v = 1) : ∀ k, 0 ≤ k → k < c 10 G 5 → c 43 G k = 2 → c 44 G k ≠ v := by
  intro k k0 k1 k2 k3
  rcases hg.2.2.2.2.1 k k0 k1 with ⟨b1, _⟩ | ⟨b1, _⟩ | ⟨b1, _⟩ | ⟨b1, b2, b3, b4, b5, b6⟩ | ⟨b1, _⟩
  · rw [b1] at k2; exact absurd k2 (by decide)
  · rw [b1] at k2; exact absurd k2 (by decide)
  · rw [b1] at k2; exact absurd k2 (by decide)
  · rw [k3] at b5; exact b5 h
  · rw [b1] at k2; exact absurd k2 (by decide)
/-- the chain that is gone along stays the same -/
theorem code_up {J : rHp → Prop} {Q : rHp → rHp → Prop} {r R n : Int} {kb : Int → Int} {g t : Int} {c m c2 m2 : rHp} (hP : (wP N) J Q r R n kb g c m c2 m2) (hg : gAt c m (9 * R + (g + 1)) (g + 8 * r)) (hkb : kb g = m 79 0 (g + 8 * r)) (t0 : 0 ≤ t) (t1 : t < c 4 0 7) (hX : cdG c (c 10 (9 * R + (g + 1)) 9) t = xCd c (9 * R + (g + 1))) : cdG c2 (c2 10 (9 * R + (g + 1)) 9) t = xCd c2 (9 * R + (g + 1)) := by
  obtain ⟨e9, e10, e43, e44, e46, e6⟩ := hP.sc
  obtain ⟨w1, w2⟩ := hP.gr.2 t t0 t1
  have u4 := hg.2.2.2.1
  have u5 := hg.2.2.2.2.2.1
  rw [e10]
  generalize hu : c 10 (9 * R + (g + 1)) 9 = u at *
  have a1 : cdG c2 u t = cdG c u t := by
    unfold cdG
    by_cases b : u < 0
    · rw [if_pos b, if_pos b]
      unfold chP
      rw [w1]
    · rw [if_neg b, if_neg b]
      unfold chA
      rw [show (u + 4 * t) / 4 = t by omega, w1, w2 u (by omega) (by omega)]
  have a2 : xCd c2 (9 * R + (g + 1)) = xCd c (9 * R + (g + 1)) := by
    unfold xCd
    rw [e10, hu]
    by_cases b : u < 0
    · rw [if_pos b, if_pos b]
    · rw [if_neg b, if_neg b]
      have : vGd c2 (9 * R + (g + 1)) u = vGd c (9 * R + (g + 1)) u := by
        unfold vGd
        rw [e43, e44, e46]
        have u7 := hg.2.2.2.2.2.2
        rw [hu] at u7
        rcases u7 (by omega) with z | ⟨z1, z2⟩
        · rw [if_pos (by rw [z]; decide), if_pos (by rw [z]; decide)]
        · rw [if_neg (fun y => y z1), if_neg (fun y => y z1)]
          have vr : qVr (c 44 (9 * R + (g + 1)) u) := by
            rcases hg.2.2.2.2.1 u (by omega) (by omega) with ⟨b1, _⟩ | ⟨b1, b2, b3, b4, _⟩ | ⟨b1, b2, b3, b4, _⟩ | ⟨b1, b2, b3, b4, _⟩ | ⟨b1, _⟩
            · rw [z1] at b1; exact absurd b1 (by decide)
            · exact b4
            · exact b4
            · exact b4
            · rw [z1] at b1; exact absurd b1 (by decide)
          exact (hP.fb _ vr (by rw [hkb]; exact z2)).1
      rw [this]
  rw [a1, a2]
  exact hX
