/-! ===== GOALS gone through, by both ===== -/
variable {N : Int}
theorem gTd_yes {k x : Int} {c : rHp} (y : 1 < c 6 0 10) (a : c 6 0 13 = 0) (b : c 10 (9 * c 6 0 7 + k) 10 = c 9 (c 6 0 7) 3 - 1) (h : fn226 [9 * c 6 0 7 + k, c 6 0 12] c = (0, x, c)) : gTd k c = .inl (0, [0, x, c 6 0 12, 1], c) := by
  unfold gTd
  simp only [zLet, h]
  rw [if_neg (show ¬ c 6 0 10 ≤ 1 by omega), if_neg (show ¬ c 6 0 13 ≠ 0 from fun z => z a), if_neg (show ¬ c 10 (9 * c 6 0 7 + k) 10 ≠ c 9 (c 6 0 7) 3 + -1 from fun z => z (by omega))]
theorem gTd_no {k x : Int} {c : rHp} (n : ¬ (1 < c 6 0 10 ∧ c 6 0 13 = 0 ∧ c 10 (9 * c 6 0 7 + k) 10 = c 9 (c 6 0 7) 3 - 1)) (h : fn226 [9 * c 6 0 7 + k, 0] c = (0, x, c)) : gTd k c = .inl (0, [0, x, 0, 0], c) := by
  unfold gTd
  simp only [zLet, h]
  by_cases a : c 6 0 10 ≤ 1
  · rw [if_pos a]
  · rw [if_neg a]
    by_cases b : c 6 0 13 = 0
    · rw [if_neg (show ¬ c 6 0 13 ≠ 0 from fun z => z b)]
      by_cases d : c 10 (9 * c 6 0 7 + k) 10 = c 9 (c 6 0 7) 3 + -1
      · exact absurd ⟨by omega, b, by omega⟩ n
      · rw [if_pos (show c 10 (9 * c 6 0 7 + k) 10 ≠ c 9 (c 6 0 7) 3 + -1 from d)]
    · rw [if_pos (show c 6 0 13 ≠ 0 from b)]
theorem take_sp {J : rHp → Prop} {Q : rHp → rHp → Prop} {r R n : Int} {kb : Int → Int} {Z0 Z1 : Int → rHp → zR} {F : rHp → zR} {Y : Int → rHp → Int} {g : Int} (hY : ∀ x g, g 6 0 13 = x → Y x g = x) (hJ : wJQ J Q) (hI : zI J r n Z0 Z1) (hF : (wSp N) J Q r R n kb Z0 Z1 (g + 1) F) (g0 : 0 ≤ g) (g1 : g < n) {c m : rHp} (h : (wR N) J Q r R n kb g c m) (hk : m 77 0 (g + 8 * r) = 0) : (wOut N) J Q r R n kb Z1 g c m (gT F Y (g + 1) c) (Z0 g m) := by
  have hg := h.st.at0 g g0 g1 (by omega)
  have hkb := h.st.kn g g0 g1
  have rl := h.st.rl
  have n71 := h.tt.1
  have hlim := h.lim
  have hb : ∀ v, qVr v → qBt (m 79 0 (g + 8 * r)) v = 1 → c 37 0 v = m 103 0 v := fun v v0 v1 => (h.bnd v v0 (by rw [hkb]; exact v1)).1
  rw [hI.at0 g m h.jm h.bad (by omega) hk, h.tt.2.2.1.2.2.1 _ hg.2.1.1 hg.2.1.2]
  have ask := asks_two h g0 g1 hk
  obtain ⟨x, x1, x2⟩ := seek (l := if pAs m r g = true then c 6 0 12 else 0) hg h.tt hb
  have hd : ∃ fa, gTd (g + 1) c = .inl (0, [0, x, (if pAs m r g = true then c 6 0 12 else 0), fa], c) := by
    by_cases a : pAs m r g = true
    · rw [if_pos a] at x1 ⊢
      obtain ⟨y1, y2, y3⟩ := ask.1 a
      exact ⟨1, gTd_yes y1 y2 (by rw [rl]; exact y3) (by rw [rl]; exact x1)⟩
    · rw [if_neg a] at x1 ⊢
      exact ⟨0, gTd_no (fun z => a (ask.2 ⟨z.1, z.2.1, by rw [← rl]; exact z.2.2⟩)) (by rw [rl]; exact x1)⟩
  obtain ⟨fa, hd⟩ := hd
  have e : gT F Y (g + 1) c = zLoop (gTe F Y (g + 1) c) (0, [0, x, (if pAs m r g = true then c 6 0 12 else 0), fa], c) := by
    unfold gT
    rw [hd]
    rfl
  rw [e]
  have old : ∀ j, j < (if pAs m r g = true then c 6 0 12 else 0) → 0 ≤ j → pTk m (g + 8 * r) (pAs m r g) j = false := by
    intro j j0 j1
    by_cases a : pAs m r g = true
    · rw [if_pos a] at j0
      have y := h.ask.2 (ask.1 a).1
      exact pTk_old a (fun z => by omega)
    · rw [if_neg a] at j0
      omega
  refine take_lp hY hJ hI hF g0 g1 rl rfl _ 0 x 0 c m (Nat.le_refl _) h hk hlim.1.symm rfl (Int.le_refl 0) (by omega) (Int.le_refl 0) (fun z => z) rfl ?_
  rcases x2 with ⟨y1, y2⟩ | ⟨y1, y2, y3, y4⟩
  · refine Or.inl ⟨y1, fun j j0 j1 => ?_⟩
    by_cases b : j < (if pAs m r g = true then c 6 0 12 else 0)
    · exact old j b j0
    · exact pTk_f (y2 j j0 (by omega) (by omega))
  · refine Or.inr ⟨y1, y2, y3, fun j j0 j1 j2 => ?_⟩
    by_cases b : j < (if pAs m r g = true then c 6 0 12 else 0)
    · exact old j b j0
    · exact pTk_f (y4 j j0 (by omega) j1)
noncomputable def wPo (p : zR) : zR := if p.1 = 0 then (0, 0, p.2.2) else if p.1 = 1 then (1, 0, p.2.2) else (4, 0, p.2.2)
theorem wPo_0 {v : Int} {c : rHp} : wPo (0, v, c) = (0, 0, c) := rfl
theorem wPo_1 {v : Int} {c : rHp} : wPo (1, v, c) = (1, 0, c) := rfl
theorem wPo_4 {v : Int} {c : rHp} : wPo (4, v, c) = (4, 0, c) := rfl
theorem wOut_po {J : rHp → Prop} {Q : rHp → rHp → Prop} {r R n : Int} {kb : Int → Int} {Z1 : Int → rHp → zR} {g : Int} {c m : rHp} {x z : zR} (h : (wOut N) J Q r R n kb Z1 g c m x z) : (wOut N) J Q r R n kb Z1 g c m (wPo x) z := by
  obtain ⟨o, c_q, e, hc⟩ := h
  refine ⟨o, c_q, ?_, hc⟩
  rcases hc with ⟨eo, _⟩ | ⟨eo, _⟩ | ⟨eo, _⟩ <;> rw [e, eo] <;> rfl
theorem step_on {J : rHp → Prop} {Q : rHp → rHp → Prop} {r R n : Int} {kb : Int → Int} {Z0 Z1 : Int → rHp → zR} {F : rHp → zR} {g : Int} (hJ : wJQ J Q) (hI : zI J r n Z0 Z1) (hF : (wSp N) J Q r R n kb Z0 Z1 (g + 1) F) (g0 : 0 ≤ g) (g1 : g < n) {c m c1 m1 : rHp} (h : (wR N) J Q r R n kb g c m) (hk : m 77 0 (g + 8 * r) ≠ 0) (ec : eC c c1) (em : eM m m1) (e6 : c1 6 = c 6) (e38 : c1 38 = c 38) (e104 : m1 104 = m 104) (e15 : m1 15 = m 15) (bnd : ∀ v, qVr v → qBt (kb (g + 1)) v = 1 → c1 37 0 v = m1 103 0 v ∧ (vOk N) (m1 103 0 v)) (fbs : ∀ v, qVr v → qBt (kb g) v = 1 → c1 37 0 v = c 37 0 v ∧ m1 103 0 v = m 103 0 v) : (wOut N) J Q r R n kb Z1 g c m (wPo (F c1)) (Z0 (g + 1) m1) := by
  have k1 : m1 77 = m 77 := em.1 77 (by decide) (by decide) (by decide)
  have hR : (wR N) J Q r R n kb (g + 1) c1 m1 := by
    refine wR_loc hJ h ec em (by rw [e15]; exact h.bad) (by rw [e6, e15]; exact h.stp) (by rw [e15]; exact h.st0) bnd (fun x x0 x1 x2 => ?_) ?_
    · rw [e38, e104]
      refine h.tkn x x0 ?_ x2
      by_cases b : x = g
      · rw [b] at x2; exact absurd x2 hk
      · omega
    · rw [cn_s g0, decide_eq_false hk, Bool.false_and, if_neg (by decide), e6, e104, Int.add_zero]
      exact h.fr
  obtain ⟨o, c_q, e, hc⟩ := hF c1 m1 hR
  rcases hc with ⟨eo, m_q, z, hP⟩ | ⟨eo, m_q, z, b⟩ | ⟨eo, m_q, z, b⟩
  · have k2 : m_q 77 = m 77 := (hP.sm.1 77 (by decide) (by decide)).trans k1
    refine ⟨0, c_q, by rw [e, eo]; rfl, Or.inl ⟨rfl, m_q, ?_, ?_⟩⟩
    · rw [z, show g + 1 - 1 = g by omega]
      exact hI.bk1 g m_q hP.rel.jm hP.rel.bad g0 (by rw [k2]; exact hk)
    · have hR_q : (wR N) J Q r R n kb g c_q m_q := by
        refine wR_loc hJ hP.rel eC_rfl eM_rfl hP.rel.bad hP.rel.stp hP.rel.st0 (fun v v0 v1 => hP.rel.bnd v v0 (h.st.up g v g0 g1 v0 v1)) (fun x x0 x1 x2 => hP.rel.tkn x x0 (by omega) x2) ?_
        have f := hP.rel.fr
        rw [cn_s g0, k2, decide_eq_false hk, Bool.false_and, if_neg (by decide), Int.add_zero] at f
        rw [k2]
        exact f
      refine ⟨hR_q, fun v v0 v1 => ?_, fun x x0 x1 x2 => ?_, tG_tr (eC_tG ec) hP.gr, sC_tr (eC_sC ec) hP.sc, sM_tr (eM_sM em) hP.sm, sK_tr (e_sK ec em) hP.sk⟩
      · have q := hP.fb v v0 (h.st.up g v g0 g1 v0 v1)
        rw [q.1, q.2]
        exact fbs v v0 v1
      · rw [hP.ft x x0 (by omega) (by rw [k1]; exact x2), e104]
  · exact ⟨1, c_q, by rw [e, eo]; rfl, Or.inr (Or.inl ⟨rfl, m_q, z, b⟩)⟩
  · exact ⟨4, c_q, by rw [e, eo]; rfl, Or.inr (Or.inr ⟨rfl, m_q, z, b⟩)⟩
theorem fn132_eq {a b : Int} {c : rHp} : fn132 [a, b] c = (0, b + 9 * a + 1, c) := rfl
theorem gWk_end {F : rHp → zR} {Y : Int → rHp → Int} {g k : Int} {c : rHp} (h : g ≥ c 9 (c 6 0 7) 2) : gWk F Y g k c = fn245 [] c := by
  unfold gWk fn245
  simp only [zLet]
  rw [if_pos h]
theorem gWk_at {F : rHp → zR} {Y : Int → rHp → Int} {g k : Int} {c : rHp} (h : ¬ g ≥ c 9 (c 6 0 7) 2) (hk : c 10 (9 * c 6 0 7 + k) 4 = 1) : gWk F Y g k c = wPo (gT F Y k c) := by
  unfold gWk
  simp only [zLet, fn132_eq]
  rw [if_neg h, if_neg (fun z => z hk)]
  rfl
theorem gWk_no {F : rHp → zR} {Y : Int → rHp → Int} {g k v : Int} {c : rHp} (h : ¬ g ≥ c 9 (c 6 0 7) 2) (hk : c 10 (9 * c 6 0 7 + k) 4 = 2) (e : fn228 [9 * c 6 0 7 + k] c = (0, v, c)) : gWk F Y g k c = if 1 ≤ v then (0, 0, c) else wPo (F c) := by
  unfold gWk
  simp only [zLet, fn132_eq, e]
  rw [if_neg h, if_pos (show c 10 (9 * c 6 0 7 + k) 4 ≠ 1 by rw [hk]; decide), if_pos (show 0 ≤ -c 10 (9 * c 6 0 7 + k) 4 + 3 by rw [hk]; decide), if_neg (show ¬ c 10 (9 * c 6 0 7 + k) 4 ≠ 2 from fun z => z hk)]
  rfl
theorem gWk_le {F : rHp → zR} {Y : Int → rHp → Int} {g k v : Int} {c : rHp} (h : ¬ g ≥ c 9 (c 6 0 7) 2) (hk : c 10 (9 * c 6 0 7 + k) 4 = 3) (e : fn230 [9 * c 6 0 7 + k] c = (0, v, c)) : gWk F Y g k c = if 1 ≤ v then wPo (F c) else (0, 0, c) := by
  unfold gWk
  simp only [zLet, fn132_eq, e]
  rw [if_neg h, if_pos (show c 10 (9 * c 6 0 7 + k) 4 ≠ 1 by rw [hk]; decide), if_pos (show 0 ≤ -c 10 (9 * c 6 0 7 + k) 4 + 3 by rw [hk]; decide), if_pos (show c 10 (9 * c 6 0 7 + k) 4 ≠ 2 by rw [hk]; decide)]
  rfl
theorem gWk_sa {F : rHp → zR} {Y : Int → rHp → Int} {g k v : Int} {c : rHp} (h : ¬ g ≥ c 9 (c 6 0 7) 2) (hk : 4 ≤ c 10 (9 * c 6 0 7 + k) 4) (hk2 : c 10 (9 * c 6 0 7 + k) 4 ≤ 5) (e : fn229 [9 * c 6 0 7 + k] c = (0, v, c)) : gWk F Y g k c = if 1 ≤ v then wPo (F c) else (0, 0, c) := by
  unfold gWk
  simp only [zLet, fn132_eq, e]
  rw [if_neg h, if_pos (show c 10 (9 * c 6 0 7 + k) 4 ≠ 1 by omega), if_neg (show ¬ 0 ≤ -c 10 (9 * c 6 0 7 + k) 4 + 3 by omega), if_pos (show 0 ≤ -c 10 (9 * c 6 0 7 + k) 4 + 5 by omega)]
  rfl
theorem gWk_is {F : rHp → zR} {Y : Int → rHp → Int} {g k v : Int} {c c1 : rHp} (h : ¬ g ≥ c 9 (c 6 0 7) 2) (hk : 6 ≤ c 10 (9 * c 6 0 7 + k) 4) (e : fn231 [9 * c 6 0 7 + k] c = (0, v, c1)) : gWk F Y g k c = if 1 ≤ v then wPo (F c1) else (0, 0, c1) := by
  unfold gWk
  simp only [zLet, fn132_eq, e]
  rw [if_neg h, if_pos (show c 10 (9 * c 6 0 7 + k) 4 ≠ 1 by omega), if_neg (show ¬ 0 ≤ -c 10 (9 * c 6 0 7 + k) 4 + 3 by omega), if_neg (show ¬ 0 ≤ -c 10 (9 * c 6 0 7 + k) 4 + 5 by omega)]
  rfl
theorem wth_ok {c m : rHp} {G k q x : Int} (hv : gVal c m G k q x) (ho : (cOk N) m x) (hb : ∀ v, qVr v → qBt (m 79 0 q) v = 1 → (vOk N) (m 103 0 v)) : (vOk N) (wth m x) := by
  unfold wth
  rcases hv with ⟨a1, a2, a3⟩ | ⟨a1, a2, a3, a4, a5⟩
  · rw [if_pos a2]
    exact ho a2
  · rw [if_neg (fun z => z a2), ← a3]
    exact hb _ a4 a5
theorem walk_sp {J : rHp → Prop} {Q : rHp → rHp → Prop} {r R n : Int} {kb : Int → Int} {Z0 Z1 : Int → rHp → zR} {F : rHp → zR} {Y : Int → rHp → Int} {g : Int} (hY : ∀ x g, g 6 0 13 = x → Y x g = x) (hJ : wJQ J Q) (hI : zI J r n Z0 Z1) (hF : (wSp N) J Q r R n kb Z0 Z1 (g + 1) F) (g0 : 0 ≤ g) (g1 : g < n) : (wSp N) J Q r R n kb Z0 Z1 g (gWk F Y g (g + 1)) := by
  intro c m h
  show (wOut N) J Q r R n kb Z1 g c m (gWk F Y g (g + 1) c) (Z0 g m)
  have rl := h.st.rl
  have hkb := h.st.kn g g0 g1
  have n71 := h.tt.1
  have hlim := h.lim
  obtain ⟨kd, k0, k7⟩ := h.st.kd g g0 g1
  have gn : ¬ g ≥ c 9 (c 6 0 7) 2 := by rw [rl, h.st.n1]; omega
  have hb : ∀ v, qVr v → qBt (m 79 0 (g + 8 * r)) v = 1 → c 37 0 v = m 103 0 v := fun v v0 v1 => (h.bnd v v0 (by rw [hkb]; exact v1)).1
  have hbo : ∀ v, qVr v → qBt (m 79 0 (g + 8 * r)) v = 1 → (vOk N) (m 103 0 v) := fun v v0 v1 => (h.bnd v v0 (by rw [hkb]; exact v1)).2
  by_cases b0 : m 77 0 (g + 8 * r) = 0
  · rw [gWk_at gn (by rw [rl, kd, b0]; rfl)]
    exact wOut_po (take_sp hY hJ hI hF g0 g1 h b0)
  -- where nothing is bound
  have same : m 77 0 (g + 8 * r) ≤ 4 → (wOut N) J Q r R n kb Z1 g c m (wPo (F c)) (Z0 (g + 1) m) := fun b4 =>
    step_on hJ hI hF g0 g1 h b0 eC_rfl eM_rfl rfl rfl rfl rfl (fun v v0 v1 => h.bnd v v0 (h.st.sm g v g0 g1 b0 b4 v0 v1)) (fun _ _ _ => ⟨rfl, rfl⟩)
  have back : (wOut N) J Q r R n kb Z1 g c m (0, 0, c) (Z1 (g - 1) m) := ⟨0, c, rfl, Or.inl ⟨rfl, m, rfl, wP_rfl h⟩⟩
  have two : ∀ (v : Int) (x : zR), m 77 0 (g + 8 * r) ≤ 4 → fn64 [g + 8 * r] m = (0, v, m) → x = (if 1 ≤ v then wPo (F c) else (0, 0, c)) → (wOut N) J Q r R n kb Z1 g c m x (Z0 g m) := by
    intro v x b4 e1 e2
    rw [hI.cp0 g m h.jm h.bad (by omega) b0 b4, e1, e2]
    show (wOut N) J Q r R n kb Z1 g c m (if 1 ≤ v then wPo (F c) else (0, 0, c)) (if 1 ≤ v then Z0 (g + 1) m else Z1 (g - 1) m)
    by_cases bv : 1 ≤ v
    · rw [if_pos bv, if_pos bv]
      exact same b4
    · rw [if_neg bv, if_neg bv]
      exact back
  by_cases b1 : m 77 0 (g + 8 * r) = 1
  · have hg := h.st.at0 g g0 g1 (by omega)
    have ca := any_c hg h.tt hb (fun k k0 k1 => h.st.no1 g k g0 g1 b1 k0 k1) (by omega)
    have ma := any_m h.tt.2.2.1 b1 hg.2.1 hlim.2.2
    rw [hlim.1] at ca
    by_cases p : m 15 0 81 ≤ pIx (fun t => !pFt m (g + 8 * r) t) (m 15 0 81) 0
    · rw [if_pos p] at ca ma
      refine two 1 _ (by omega) ma ?_
      rw [gWk_no gn (by rw [rl, kd, b1]; rfl) (by rw [rl]; exact ca), if_neg (by decide), if_pos (by decide)]
    · rw [if_neg p] at ca ma
      refine two 0 _ (by omega) ma ?_
      rw [gWk_no gn (by rw [rl, kd, b1]; rfl) (by rw [rl]; exact ca), if_pos (by decide), if_neg (by decide)]
  by_cases b4 : m 77 0 (g + 8 * r) ≤ 4
  · obtain ⟨w0, w1, o0, o1⟩ := h.st.cp g g0 g1 (by omega) b4
    have e0 := val_two w0 hb
    have e1 := val_two w1 hb
    have cm := cmp_m (m := m) (q := g + 8 * r) (by omega) (wth_ok w0 o0 hbo) (wth_ok w1 o1 hbo)
    refine two _ _ b4 cm ?_
    by_cases b2 : m 77 0 (g + 8 * r) = 2
    · have lc := less_c (c := c) (G := 9 * R + (g + 1))
      rw [e0, e1] at lc
      rw [if_pos b2]
      exact gWk_le gn (by rw [rl, kd, b2]; rfl) (by rw [rl]; exact lc)
    · have sc := same_c (c := c) (G := 9 * R + (g + 1))
      rw [e0, e1, kd] at sc
      rw [if_neg b2]
      by_cases b3 : m 77 0 (g + 8 * r) = 3
      · rw [if_pos (show m 77 0 (g + 8 * r) + 1 = 4 by omega)] at sc
        rw [if_pos b3]
        exact gWk_sa gn (by rw [rl, kd]; omega) (by rw [rl, kd]; omega) (by rw [rl]; exact sc)
      · rw [if_neg (show ¬ m 77 0 (g + 8 * r) + 1 = 4 by omega)] at sc
        rw [if_neg b3]
        exact gWk_sa gn (by rw [rl, kd]; omega) (by rw [rl, kd]; omega) (by rw [rl]; exact sc)
  · obtain ⟨⟨w0, w1, o0, o1⟩, x1, x2, x3, x4⟩ := h.st.rc g g0 g1 (by omega)
    obtain ⟨v, c1, m1, e1, e2, e3, ⟨z, e4⟩, e5, e6⟩ := isr_two kd w0 w1 x1 hb (wth_ok w0 o0 hbo) (wth_ok w1 o1 hbo)
    rw [hI.rc0 g m h.jm h.bad (by omega) (by omega), e2, gWk_is gn (by rw [rl, kd]; omega) (by rw [rl]; exact e1)]
    show (wOut N) J Q r R n kb Z1 g c m (if 1 ≤ v then wPo (F c1) else (0, 0, c1)) (if 1 ≤ v then Z0 (g + 1) m1 else Z1 (g - 1) m1)
    have ne : ∀ u, qVr u → qBt (kb g) u = 1 → u ≠ m 81 0 (4 * (g + 8 * r)) := fun u _ u1 u2 => x3 (by rw [← u2]; exact u1)
    rcases e3 with e3 | e3
    · rw [if_neg (show ¬ 1 ≤ v by omega), if_neg (show ¬ 1 ≤ v by omega)]
      have em : m1 = m := e5 e3
      rw [em]
      rcases e4 with e4 | e4
      · rw [e4]; exact back
      · have ec : eC c c1 := by rw [e4]; exact eC_up37
        have fk : ∀ u, qVr u → qBt (kb g) u = 1 → c1 37 0 u = c 37 0 u := fun u u0 u1 => by rw [e4, rUp_ne (fun y => ne u u0 u1 y.2.2)]
        have g6 : c1 6 = c 6 := by rw [e4, rUp_grp (by decide)]
        have g38 : c1 38 = c 38 := by rw [e4, rUp_grp (by decide)]
        have hR : (wR N) J Q r R n kb g c1 m := wR_loc hJ h ec eM_rfl h.bad (by rw [g6]; exact h.stp) h.st0 (fun u u0 u1 => by rw [fk u u0 u1]; exact h.bnd u u0 u1) (fun x x0 x1 x2 => by rw [g38]; exact h.tkn x x0 x1 x2) (by rw [g6]; exact h.fr)
        exact ⟨0, c1, rfl, Or.inl ⟨rfl, m, rfl, ⟨hR, fun u u0 u1 => ⟨fk u u0 u1, rfl⟩, fun _ _ _ _ => rfl, eC_tG ec, eC_sC ec, eM_sM eM_rfl, e_sK ec eM_rfl⟩⟩⟩
    · rw [if_pos (show 1 ≤ v by omega), if_pos (show 1 ≤ v by omega)]
      obtain ⟨y, y1, y2, y3⟩ := e6 e3
      refine step_on hJ hI hF g0 g1 h b0 (by rw [y2]; exact eC_up37) (by rw [y3]; exact eM_up103) (by rw [y2, rUp_grp (by decide)]) (by rw [y2, rUp_grp (by decide)]) (by rw [y3, rUp_grp (by decide)]) (by rw [y3, rUp_grp (by decide)]) (fun u u0 u1 => ?_) (fun u u0 u1 => ?_)
      · by_cases bu : u = m 81 0 (4 * (g + 8 * r))
        · rw [y2, y3, bu, rUp_at, rUp_at]
          exact ⟨rfl, Or.inl ⟨by omega, by omega⟩⟩
        · rw [y2, y3, rUp_ne (fun y => bu y.2.2), rUp_ne (fun y => bu y.2.2)]
          rcases x4 u u0 u1 with z1 | z1
          · exact h.bnd u u0 z1
          · exact absurd z1 bu
      · rw [y2, y3, rUp_ne (fun y => ne u u0 u1 y.2.2), rUp_ne (fun y => ne u u0 u1 y.2.2)]
        exact ⟨rfl, rfl⟩
