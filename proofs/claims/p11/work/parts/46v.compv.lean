/-! ===== a comparison that a VARIABLE begins, by both, when told ===== -/
theorem fH_symm {o : Nat} {L : List Nat} {J : List Int} {g g_q : rHp} (h : fH o L J g g_q) : fH o L J g_q g := ⟨fun G a b => (h.1 G a b).symm, fun j a => (h.2 j a).symm⟩
theorem qZ_moreV {c0 m0 c m c_q m_q : rHp} (h : qZ c0 m0 c m) (hc : fH 2 (22 :: 23 :: lC) (13 :: jC) c c_q) (hm : fH 15 (74 :: 82 :: 83 :: 84 :: lM) jM m m_q) : qZ c0 m0 c_q m_q := by
  obtain ⟨a3, a4, a6, a7, a8, a9, a10⟩ := h
  have g : ∀ G, G ∉ 22 :: 23 :: lC → G ≠ 2 → c_q G = c G := hc.1
  have k : ∀ G, G ∉ 74 :: 82 :: 83 :: 84 :: lM → G ≠ 15 → m_q G = m G := hm.1
  refine ⟨qN_up a3 (g 3 (by decide) (by decide)) (g 26 (by decide) (by decide)) (hm.2 8 (by decide)) (hm.2 9 (by decide)) (k 61 (by decide) (by decide)) (k 62 (by decide) (by decide)) (k 63 (by decide) (by decide)),
    qP_up a4 (by rw [g 1 (by decide) (by decide)]) (g 16 (by decide) (by decide)) (g 17 (by decide) (by decide)) (hm.2 14 (by decide)) (k 64 (by decide) (by decide)) (k 65 (by decide) (by decide)) (k 66 (by decide) (by decide)),
    fH_trans a6 (fH_sub hc (by decide) (by decide)), fun j hj => by rw [g 1 (by decide) (by decide)]; exact a7 j hj, fH_trans a8 (fH_sub hm (by decide) (by decide)), ⟨by rw [hm.2 14 (by decide)]; exact a9.1, fun p hp => by rw [k 66 (by decide) (by decide)]; exact a9.2 p hp⟩, ?_⟩
  rw [g 3 (by decide) (by decide)]
  exact ⟨a10.1, pU_up a10.2 (hm.2 14 (by decide)) (g 1 (by decide) (by decide)) (g 16 (by decide) (by decide)) (g 17 (by decide) (by decide)) (k 64 (by decide) (by decide)) (k 65 (by decide) (by decide)) (k 66 (by decide) (by decide))⟩
theorem qB_c {H : Int → Prop} {c m c_q : rHp} (h : qB H c m) (h5 : c_q 2 0 5 = c 2 0 5) (h16 : c_q 2 0 16 = c 2 0 16) (h25 : c_q 25 = c 25) : qB H c_q m := by
  obtain ⟨b1, b2, b3, b4, b5⟩ := h
  exact ⟨b1, qO_up b2 h16 h25 rfl rfl rfl rfl (Int.le_refl _), by rw [h5]; exact b3, by rw [h5]; exact b4, by rw [h5]; exact b5⟩
theorem fn8_ge {p : Int} {m : rHp} (h : p ≤ m 15 0 34) : (fn8 [p] m).2.2 = rUp m 15 0 36 p := by rw [fn8_eq h]
theorem compv_two {H : Int → Prop} {c0 m0 A A3 M : rHp} {w v p wh : Int} (hR : qR 0 c0 m0 A3 M) (hB : qB H A3 M) (h00 : 0 ≤ c0 1000 0 0) (hlim : 2 * c0 1000 0 0 + m0 15 0 34 ≤ 10239) (h120 : fn120 [w] A = (0, v, A3)) (hv : qVr v) (hwh : wh ≤ M 15 0 34)
    (h80 : M 80 0 (4 * M 73 0 (M 15 0 44) + 32 * M 15 0 44) = 1) (h81 : M 81 0 (4 * M 73 0 (M 15 0 44) + 32 * M 15 0 44) = v) (hnew : pFd (fun j => decide (A 22 0 j ≠ w)) (A 2 0 13) < 0 → qBt (M 15 0 45) v ≠ 1) :
    (∃ c_q m_q, fn155 [w, p] A = (0, 1, c_q) ∧ fn40 [wh] M = (0, 1, m_q) ∧ qR 1 c0 m0 c_q m_q ∧ qB H c_q m_q ∧ fH 2 [3, 26, 22, 23, 10, 43, 44, 45, 46] [6, 8, 9, 10, 13] A3 c_q ∧ fH 15 [61, 62, 63, 74, 82, 83, 84, 80, 81, 77] [8, 9, 35, 37, 38, 39, 40] M m_q ∧ (∀ G h, G ∈ [10, 43, 44, 45, 46] → h ≠ qG A → c_q G h = A3 G h) ∧ M 15 0 35 < m_q 15 0 35 ∧ gCm (sN c0 m0) (M 15 0 45) (qG A) (M 73 0 (M 15 0 44) + 8 * M 15 0 44) c_q m_q) ∨
    (∃ c_q m_q, fn155 [w, p] A = (0, 0, c_q) ∧ fn40 [wh] M = (0, 0, m_q) ∧ qZ c0 m0 c_q m_q) := by
  obtain ⟨cb, b1, b2, b3, b4, b5, b6⟩ := fn103_all (c := A) (k := 4) (w := 0) (p := p)
  obtain ⟨B3, e1, e2, e3⟩ := meet_both h120 b2 (by decide) (by decide) (by decide)
  obtain ⟨b, c5, s1, s2, s3, s4, s5⟩ := fn154_all cb
  have hG : A 9 (A 40 0 (A 1 0 10)) 2 + 9 * A 40 0 (A 1 0 10) + 1 = qG A := rfl
  have hGb : qG cb = qG A := qG_up b2 (by decide) (by decide) (by decide)
  have hGB : qG B3 = qG A := (qG_up e3 (by decide) (by decide) (by decide)).trans hGb
  have hRB : qR 0 c0 m0 B3 M := by
    refine qR_up hR (fH_sub e2 (by decide) (by decide)) fH_refl ?_ (Int.le_refl _) hR.2.1.2.1 hR.2.1.2.2
    rw [e2.2 6 (by decide)]; exact hR.2.1.1
  have hBB : qB H B3 M := qB_c hB (e2.2 5 (by decide)) (e2.2 16 (by decide)) (e2.1 25 (by decide) (by decide))
  have x5 : A 2 0 5 = M 15 0 45 := by
    rw [← hB.2.2.1, ← e2.2 5 (by decide), e3.2 5 (by decide), b2.2 5 (by decide)]
  have x5c : c5 2 0 5 = M 15 0 45 := by rw [s3.2 5 (by decide), b2.2 5 (by decide)]; exact x5
  have h155 : fn155 [w, p] A = if 1 ≤ b then (if 1 ≤ (fn138 [qG A, w, p] c5).2.1 then (if 1 ≤ (fn139 [qG A] (fn138 [qG A, w, p] c5).2.2).2.1 then (0, 1, (fn139 [qG A] (fn138 [qG A, w, p] c5).2.2).2.2) else (0, 0, (fn139 [qG A] (fn138 [qG A, w, p] c5).2.2).2.2)) else (0, 0, (fn138 [qG A, w, p] c5).2.2)) else (0, 0, c5) := by
    unfold fn155
    simp only [zLet, List.getD_cons_zero, List.getD_cons_succ, hG, b1, s1]
  have hu := fn119_eq w cb
  have q22 : cb 22 = A 22 := b2.1 22 (by decide) (by decide)
  have q13 : cb 2 0 13 = A 2 0 13 := b2.2 13 (by decide)
  rw [q22, q13] at hu
  have hu5 := fn119_same hu (c_q := c5) (s3.1 22 (by decide) (by decide)) (s3.2 13 (by decide))
  generalize hU : pFd (fun j => decide (A 22 0 j ≠ w)) (A 2 0 13) = u at *
  have back : fH 2 (22 :: 23 :: lC) (13 :: jC) B3 c5 := fH_trans (fH_sub (fH_symm e3) (by decide) (by decide)) (fH_sub s3 (by decide) (by decide))
  /- not KNOWN: both find it BROKEN -/
  have unk : qBt (M 15 0 45) v ≠ 1 → (u < 0 ∨ u = v) → (∃ c_q m_q, fn155 [w, p] A = (0, 0, c_q) ∧ fn40 [wh] M = (0, 0, m_q) ∧ qZ c0 m0 c_q m_q) := by
    intro hk huv
    have cl : ∃ c_q, fn155 [w, p] A = (0, 0, c_q) ∧ fH 2 [] [4] c5 c_q := by
      rw [h155]
      by_cases hb : 1 ≤ b
      · rw [if_pos hb]
        have e138 : fn138 [qG A, w, p] c5 = (0, 0, rUp c5 2 0 4 p) := by
          unfold fn138
          simp only [zLet, List.getD_cons_zero, List.getD_cons_succ, hu5, fn109_eq, fn117_eq, one_bit]
          by_cases hn : u < 0
          · rw [if_pos hn]
          · rw [if_neg hn, if_neg (by rw [x5c, huv.resolve_left hn]; exact hk)]
        rw [e138]
        exact ⟨_, if_neg (show ¬ (1 : Int) ≤ 0 by decide), fH_fld fH_refl (by decide)⟩
      · rw [if_neg hb]
        exact ⟨_, rfl, fH_refl⟩
    obtain ⟨c_q, l1, l2⟩ := cl
    rcases sign_two hRB (Or.inl rfl) with ⟨c5_q, m5, a1, a2, a3, a4, a5, a6, a7, a8⟩ | ⟨c5_q, m5, a1, a2, a3⟩
    · refine ⟨c_q, rUp m5 15 0 36 wh, l1, ?_, qZ_upV a2 (by decide) (fH_trans (fH_trans (fH_sub (fH_symm a3) (by decide) (by decide)) back) (fH_sub l2 (by decide) (by decide))) (fH_fld fH_refl (by decide))⟩
      rw [a7 wh]
      unfold qTl
      rw [if_neg (show ¬ M 80 0 (4 * M 73 0 (M 15 0 44) + 32 * M 15 0 44) ≠ 1 from fun q => q h80), h81, fn19_eq hv]
      simp only [one_bit]
      rw [if_neg (by rw [a4.2 45 (by decide)]; exact hk), fn8_ge (by rw [a4.2 34 (by decide)]; exact hwh)]
    · obtain ⟨b_q, c6, t1, t2, t3, t4, t5⟩ := fn154_all B3
      have hc6 : c6 = c5_q := by
        have := t1.symm.trans a1
        exact congrArg (fun q => q.2.2) this
      subst hc6
      exact ⟨c_q, m5, l1, a2 wh, qZ_moreV a3 (fH_trans (fH_trans (fH_sub (fH_symm t3) (by decide) (by decide)) back) (fH_sub l2 (by decide) (by decide))) fH_refl⟩
  by_cases hn : u < 0
  · exact Or.inr (unk (hnew hn) (Or.inl hn))
  · have h20 := fn120_old hu (by omega)
    rw [e1] at h20
    have hvu : v = u := congrArg (fun q => q.2.1) h20
    have hB3 : B3 = rUp cb 23 0 u (zF2 .iadd (cb 23 0 u) 1) := congrArg (fun q => q.2.2) h20
    by_cases hk : qBt (M 15 0 45) v = 1
    · rcases sign_two hRB (Or.inl rfl) with ⟨c5_q, m5, a1, a2, a3, a4, a5, a6, a7, a8⟩ | ⟨c5_q, m5, a1, a2, a3⟩
      · have s6 := s5 u (zF2 .iadd (cb 23 0 u) 1)
        rw [← hB3, a1] at s6
        have hb : b = 1 := (congrArg (fun q => q.2.1) s6).symm
        have hc5 : c5_q = rUp c5 23 0 u (zF2 .iadd (cb 23 0 u) 1) := congrArg (fun q => q.2.2) s6
        have g23 : c5 23 0 u = cb 23 0 u := by rw [s3.1 23 (by decide) (by decide)]
        have e138 : fn138 [qG A, w, p] c5 = (0, 1, (fn104 [qG A, 1, p, u, 0] c5_q).2.2) := by
          unfold fn138
          simp only [zLet, List.getD_cons_zero, List.getD_cons_succ, hu5, fn117_eq, one_bit, g23]
          rw [if_neg hn, if_pos (by rw [x5c, ← hvu]; exact hk), hc5]
        have hG5 : qG c5_q = qG A := (qG_up a3 (by decide) (by decide) (by decide)).trans hGB
        have z0 : B3 10 (qG A) 5 = 0 := by rw [e3.1 10 (by decide) (by decide)]; exact b4
        have z5 : c5_q 10 (qG A) 5 = 0 := by rw [a5 _ _ (by omega)]; exact z0
        have fx := fn104_fr (g := qG A) (k := 1) (p := p) (s := u) (v := 0) (c := c5_q)
        have p10 := put10 (g := qG A) (k := 1) (p := p) (s := u) (v := 0) (c := c5_q) (by rw [z5]; decide)
        have po : ∀ G h, h ≠ qG A → (fn104 [qG A, 1, p, u, 0] c5_q).2.2 G h = c5_q G h := fun G h hh => put_oth hh
        have pc := put_con (g := qG A) (k := 1) (p := p) (s := u) (v := 0) (c := c5_q) (by rw [z5]; decide) 0
        rw [z5, if_pos rfl, if_pos rfl, if_pos rfl] at pc
        generalize (fn104 [qG A, 1, p, u, 0] c5_q).2.2 = c6 at *
        have hG6 : qG c6 = qG A := (qG_up fx (by decide) (by decide) (by decide)).trans hG5
        have hR6 : qR 0 c0 m0 c6 m5 := by
          refine qR_up a2 (fH_sub fx (by decide) (by decide)) fH_refl ?_ (Int.le_refl _) a2.2.1.2.1 a2.2.1.2.2
          rw [fx.2 6 (by decide)]; exact a2.2.1.1
        have hB6 : qB H c6 m5 := qB_c (qB_sign hBB a3 a4 (by omega)) (fx.2 5 (by decide)) (fx.2 16 (by decide)) (fx.1 25 (by decide) (by decide))
        have z6 : c6 10 (qG c6) 5 < 4 := by
          rw [hG6, p10, if_pos ⟨rfl, rfl⟩, z5]; decide
        have tl : fn40 [wh] M = if 1 ≤ (fn34 [1] m5).2.1 then (0, 1, (fn34 [1] m5).2.2) else (0, 0, (fn34 [1] m5).2.2) := by
          rw [a7 wh]
          unfold qTl
          rw [if_neg (show ¬ M 80 0 (4 * M 73 0 (M 15 0 44) + 32 * M 15 0 44) ≠ 1 from fun q => q h80), h81, fn19_eq hv]
          simp only [one_bit]
          rw [if_pos (by rw [a4.2 45 (by decide)]; exact hk)]
        rw [h155, e138, hb, tl]
        rcases value_two (k := 1) hR6 hB6 h00 hlim z6 with ⟨c_q, m_q, y1, y2, y3, y4, y5, y6, y7, y8, y9, y10, y11, y12⟩ | ⟨c_q, m_q, y1, y2, y3⟩
        · have w5 : c6 10 (qG A) 5 = 1 := by
            have := p10 (qG A) 5
            rw [if_pos ⟨rfl, rfl⟩, z5] at this
            omega
          rw [hG6] at y1 y8 y9
          rw [hG6, w5, a4.1 73 (by decide) (by decide), a4.2 44 (by decide), a4.2 45 (by decide), show 4 * M 73 0 (M 15 0 44) + (32 * M 15 0 44 + 1) = 4 * (M 73 0 (M 15 0 44) + 8 * M 15 0 44) + 1 by omega] at y12
          obtain ⟨d1, d2, d3⟩ := y12
          have eX : 4 * (M 73 0 (M 15 0 44) + 8 * M 15 0 44) = 4 * M 73 0 (M 15 0 44) + 32 * M 15 0 44 := by omega
          rw [hGB] at a8
          refine Or.inl ⟨c_q, m_q, ?_, ?_, y3, y4, ?_, ?_, ?_, by omega, ?_, ?_, ?_, ?_, d3⟩
          · simp only [y1]
            rfl
          · rw [y2]; rfl
          · exact fH_trans (fH_trans (fH_trans (fH_sub e2 (by decide) (by decide)) (fH_sub a3 (by decide) (by decide))) (fH_sub fx (by decide) (by decide))) (fH_sub y5 (by decide) (by decide))
          · exact fH_trans (fH_sub a4 (by decide) (by decide)) (fH_sub y6 (by decide) (by decide))
          · intro G h q q2
            rw [y9 G h q q2, po G h q2]
            have qB : B3 G h = A3 G h := by
              by_cases h1 : G = 10 ∨ G = 46
              · have hm := memG q
                have n1 : G ∉ [22, 23] := hm.2.2.2.1
                rw [e3.1 G n1 hm.1, b6 G h q2]
                have := (meet_both h120 (fH_refl (L := []) (J := [])) (by decide) (by decide) (by decide))
                obtain ⟨X, x1, x2, x3⟩ := this
                rw [h120] at x1
                have hX : A3 = X := congrArg (fun q => q.2.2) x1
                rw [hX, x3.1 G n1 hm.1]
              · rw [e2.1 G (by simp only [List.mem_cons, List.not_mem_nil, or_false]; exact h1) (memG q).1]
            by_cases h10 : G = 10
            · subst h10
              funext j
              rw [a5 h j (fun y => q2 (by rw [← hGB]; exact y.1)), qB]
            · rw [a3.1 G (by simpa using h10) (memG q).1, qB]
          · rw [y8 _ _ (by omega), p10, if_neg (by omega), y6.1 77 (by decide) (by decide)]; exact a8.1
          · rw [y6.1 77 (by decide) (by decide)]; exact a8.2.1
          · rw [y6.1 77 (by decide) (by decide)]; exact a8.2.2
          · obtain ⟨f1, f2, f3⟩ := d1 0 (by decide)
            obtain ⟨f4, f5⟩ := d2 (4 * (M 73 0 (M 15 0 44) + 8 * M 15 0 44)) (by omega)
            refine Or.inr ⟨by rw [f1]; exact pc.1, ?_, ?_, ?_, ?_⟩
            · rw [f4, a4.1 80 (by decide) (by decide), eX]; exact h80
            · rw [f2, f5, pc.2.1, a4.1 81 (by decide) (by decide), eX, h81]; exact hvu.symm
            · rw [f2, pc.2.1, ← hvu]; exact hv
            · rw [f2, pc.2.1, ← hvu]; exact hk
        · rw [hG6] at y1
          refine Or.inr ⟨c_q, m_q, ?_, ?_, y3⟩
          · simp only [y1]
            rfl
          · rw [y2]; rfl
      · have s6 := s5 u (zF2 .iadd (cb 23 0 u) 1)
        rw [← hB3, a1] at s6
        have hb : b = 0 := (congrArg (fun q => q.2.1) s6).symm
        have hc5 : c5_q = rUp c5 23 0 u (zF2 .iadd (cb 23 0 u) 1) := congrArg (fun q => q.2.2) s6
        refine Or.inr ⟨c5, m5, ?_, a2 wh, qZ_moreV a3 (fH_symm ?_) fH_refl⟩
        · rw [h155, hb]; rfl
        · rw [hc5]
          exact fH_grp fH_refl (by decide) (by decide)
    · exact Or.inr (unk hk (Or.inr hvu.symm))
