/-! ===== an ATOM'S TUPLES taken, by both: the loop ===== -/
variable {N : Int}
/-- what is to be shown of a piece of the first side's way, z being the reference's -/
noncomputable def wOut (N : Int) (J : rHp → Prop) (Q : rHp → rHp → Prop) (r R n : Int) (kb : Int → Int) (Z1 : Int → rHp → zR) (g : Int) (c m : rHp) (x z : zR) : Prop :=
  ∃ o c_q, x = (o, 0, c_q) ∧ ((o = 0 ∧ ∃ m_q, z = Z1 (g - 1) m_q ∧ (wP N) J Q r R n kb g c m c_q m_q) ∨ (o = 1 ∧ ∃ m_q, z = (0, 0, m_q) ∧ m_q 15 0 77 = 3) ∨ (o = 4 ∧ ∃ m_q, z = (0, 0, m_q) ∧ m_q 15 0 77 = 2))
theorem wOut_on {J : rHp → Prop} {Q : rHp → rHp → Prop} {r R n : Int} {kb : Int → Int} {Z1 : Int → rHp → zR} {g : Int} {c m c2 m2 : rHp} {x z x2 z2 : zR} (hP : (wP N) J Q r R n kb g c m c2 m2) (ex : x = x2) (ez : z = z2) (h : (wOut N) J Q r R n kb Z1 g c2 m2 x2 z2) : (wOut N) J Q r R n kb Z1 g c m x z := by
  obtain ⟨o, c_q, h1, h2⟩ := h
  refine ⟨o, c_q, ex.trans h1, ?_⟩
  rcases h2 with ⟨e, m_q, a, b⟩ | ⟨e, m_q, a, b⟩ | ⟨e, m_q, a, b⟩
  · exact Or.inl ⟨e, m_q, ez.trans a, wP_tr hP b⟩
  · exact Or.inr (Or.inl ⟨e, m_q, ez.trans a, b⟩)
  · exact Or.inr (Or.inr ⟨e, m_q, ez.trans a, b⟩)
/-- where the first side stands on its chain: at t, or at its end; i: where the reference is -/
noncomputable def tAt (r R g i L t : Int) (c m : rHp) : Prop :=
  (t = -1 ∧ ∀ j, i ≤ j → j < L → pTk m (g + 8 * r) (pAs m r g) j = false) ∨ (i ≤ t ∧ t < c 4 0 7 ∧ cdG c (c 10 (9 * R + (g + 1)) 9) t = xCd c (9 * R + (g + 1)) ∧ ∀ j, i ≤ j → j < t → j < L → pTk m (g + 8 * r) (pAs m r g) j = false)
theorem take_end {J : rHp → Prop} {Q : rHp → rHp → Prop} {r R n : Int} {kb : Int → Int} {Z0 Z1 : Int → rHp → zR} {F : rHp → zR} {Y : Int → rHp → Int} {g i L t met l fa : Int} {c0 c m : rHp} (eL : c0 6 0 11 = L) (h : (wR N) J Q r R n kb g c m) (hL : m 15 0 81 = L) (i0 : 0 ≤ i) (i1 : i ≤ m 15 0 71) (ht : tAt r R g i L t c m) (he : t < 0 ∨ t ≥ L) :
    (wOut N) J Q r R n kb Z1 g c m (zLoop (gTe F Y (g + 1) c0) (0, [met, t, l, fa], c)) (zTk Z0 Z1 r g m (pTp m (m 78 0 (g + 8 * r)) i)) := by
  refine ⟨0, c, zLoop_inr (gTe_end (by rw [eL]; exact he)), Or.inl ⟨rfl, m, zTk_no h.tt.2.2.1 h.lim.2.2 i0 i1 (fun j j0 j1 => ?_), wP_rfl h⟩⟩
  rw [hL] at j1
  rcases ht with ⟨_, a⟩ | ⟨a1, a2, a3, a4⟩
  · exact a j j0 j1
  · exact a4 j j0 (by omega) j1
theorem take_lp {J : rHp → Prop} {Q : rHp → rHp → Prop} {r R n : Int} {kb : Int → Int} {Z0 Z1 : Int → rHp → zR} {F : rHp → zR} {Y : Int → rHp → Int} {g : Int} (hY : ∀ x g, g 6 0 13 = x → Y x g = x) (hJ : wJQ J Q) (hI : zI J r n Z0 Z1) (hF : (wSp N) J Q r R n kb Z0 Z1 (g + 1) F) (g0 : 0 ≤ g) (g1 : g < n) {c0 : rHp} {l fa L : Int} (e7 : c0 6 0 7 = R) (eL : c0 6 0 11 = L) :
    ∀ (f : Nat) (met t i : Int) (c m : rHp), (L - t).toNat ≤ f → (wR N) J Q r R n kb g c m → m 77 0 (g + 8 * r) = 0 → m 15 0 81 = L → c0 6 0 12 = c 6 0 12 → 0 ≤ i → i ≤ m 15 0 71 → 0 ≤ met → (0 ≤ t → met ≤ t) → l = (if pAs m r g = true then c 6 0 12 else 0) → tAt r R g i L t c m →
      (wOut N) J Q r R n kb Z1 g c m (zLoop (gTe F Y (g + 1) c0) (0, [met, t, l, fa], c)) (zTk Z0 Z1 r g m (pTp m (m 78 0 (g + 8 * r)) i)) := by
  intro f
  induction f with
  | zero =>
    intro met t i c m hf h hk hL e12 i0 i1 m0 mt hl ht
    exact take_end eL h hL i0 i1 ht (by omega)
  | succ f ih =>
    intro met t i c m hf h hk hL e12 i0 i1 m0 mt hl ht
    by_cases he : t < 0 ∨ t ≥ L
    · exact take_end eL h hL i0 i1 ht he
    have ht0 := ht
    rcases ht with ⟨a, _⟩ | ⟨ti, tn, tX, tj⟩
    · exact absurd (Or.inl (by omega)) he
    have t0 : 0 ≤ t := by omega
    have t1 : t < L := by omega
    have m1 := mt t0
    have hcM := h.tt.2.2.1
    have n71 := h.tt.1
    have c71 := hcM.1
    have hlim := h.lim
    have hkb := h.st.kn g g0 g1
    have hg := h.st.at0 g g0 g1 (by omega)
    have hb : ∀ v, qVr v → qBt (m 79 0 (g + 8 * r)) v = 1 → c 37 0 v = m 103 0 v := fun v v0 v1 => (h.bnd v v0 (by rw [hkb]; exact v1)).1
    -- a step further along the chain, wherever both stand by then
    have nxt : ∀ c2 m2, (wP N) J Q r R n kb g c m c2 m2 → ∃ x, fn227 [9 * R + (g + 1), t] c2 = (0, x, c2) ∧ (x = -1 ∧ (∀ j, t < j → j < c2 4 0 7 → pFt m2 (g + 8 * r) j = false) ∨ (t < x ∧ x < c2 4 0 7 ∧ cdG c2 (c2 10 (9 * R + (g + 1)) 9) x = xCd c2 (9 * R + (g + 1)) ∧ ∀ j, t < j → j < x → pFt m2 (g + 8 * r) j = false)) := by
      intro c2 m2 hP
      have k2 := hP.rel.st.kn g g0 g1
      exact seek_on (gAt_up hP.sc hP.sm hg) hP.rel.tt (fun v v0 v1 => (hP.rel.bnd v v0 (by rw [k2]; exact v1)).1) t0 (by have := hP.gr.1; omega) (code_up hP hg hkb t0 tn tX)
    -- the loop goes on from there
    have cont : ∀ x i2 c2 m2, (wP N) J Q r R n kb g c m c2 m2 → m2 15 0 81 = L → c0 6 0 12 = c2 6 0 12 → 0 ≤ i2 → i2 ≤ m2 15 0 71 → l = (if pAs m2 r g = true then c2 6 0 12 else 0) → tAt r R g i2 L x c2 m2 → (x = -1 ∨ t < x) → (wOut N) J Q r R n kb Z1 g c2 m2 (zLoop (gTe F Y (g + 1) c0) (0, [met + 1, x, l, fa], c2)) (zTk Z0 Z1 r g m2 (pTp m2 (m2 78 0 (g + 8 * r)) i2)) := by
      intro x i2 c2 m2 hP a1 a2 a3 a4 a5 a6 a7
      rcases a7 with a7 | a7
      · exact take_end eL hP.rel a1 a3 a4 a6 (Or.inl (by omega))
      · exact ih (met + 1) x i2 c2 m2 (by omega) hP.rel (by rw [hP.sm.1 77 (by decide) (by decide)]; exact hk) a1 a2 a3 a4 (by omega) (fun _ => by omega) a5 a6
    by_cases tl : t < l
    · -- too old
      have ha : pAs m r g = true := by
        by_cases b : pAs m r g = true
        · exact b
        · rw [if_neg b] at hl; omega
      rw [if_pos ha] at hl
      obtain ⟨y, _, _⟩ := (asks_two h g0 g1 hk).1 ha
      have y2 := h.ask.2 y
      have no : pTk m (g + 8 * r) (pAs m r g) t = false := pTk_old ha (fun z => by omega)
      obtain ⟨x, x1, x2⟩ := nxt c m (wP_rfl h)
      rw [zLoop_inl (gTe_skip t0 (by omega) (by omega) tl (by rw [e7]; exact x1))]
      refine cont x i c m (wP_rfl h) hL e12 i0 i1 (by rw [if_pos ha]; exact hl) ?_ (by rcases x2 with ⟨z, _⟩ | ⟨z, _⟩; exact Or.inl z; exact Or.inr z)
      have mid : ∀ j, i ≤ j → j ≤ t → j < L → pTk m (g + 8 * r) (pAs m r g) j = false := fun j j0 j1 j2 => by
        by_cases b : j = t
        · rw [b]; exact no
        · exact tj j j0 (by omega) j2
      rcases x2 with ⟨z1, z2⟩ | ⟨z1, z2, z3, z4⟩
      · refine Or.inl ⟨z1, fun j j0 j1 => ?_⟩
        by_cases b : j ≤ t
        · exact mid j j0 b j1
        · exact pTk_f (z2 j (by omega) (by omega))
      · refine Or.inr ⟨by omega, z2, z3, fun j j0 j1 j2 => ?_⟩
        by_cases b : j ≤ t
        · exact mid j j0 b j2
        · exact pTk_f (z4 j (by omega) j1)
    · obtain ⟨v1, v2⟩ := h.tt.2.2.2 t t0 tn
      obtain ⟨c1, k1, k2, k3, k4, k5⟩ := fits_two hg.1 hg.2.2.1 hg.2.2.2.1 hg.2.2.2.2.1 hb v2 v1
      have ec1 : eC c c1 := ⟨fun K a _ _ => k2 K a, fun j _ _ => by rw [k2 6 (by decide)]⟩
      have kept : ∀ v, qBt (kb g) v = 1 → c1 37 0 v = c 37 0 v := fun v z => k4 v (known_kept hg (by rw [← hkb]; exact z))
      have g4 := hg.2.2.2.1
      have g3 := hg.2.2.1
      by_cases hp : pFt m (g + 8 * r) t = true
      · -- it is taken
        have hp_q : (decide (m 93 0 t = m 78 0 (g + 8 * r)) && pMt m (g + 8 * r) t) = true := hp
        rw [if_pos hp_q] at k1
        have hm : pMt m (g + 8 * r) t = true := by rw [Bool.and_eq_true] at hp_q; exact hp_q.2
        have h93 : m 93 0 t = m 78 0 (g + 8 * r) := by rw [Bool.and_eq_true] at hp_q; exact of_decide_eq_true hp_q.1
        have hit : pTk m (g + 8 * r) (pAs m r g) t = true := pTk_t hp (fun ha => by
          rw [if_pos ha] at hl
          obtain ⟨y, _, _⟩ := (asks_two h g0 g1 hk).1 ha
          have y2 := h.ask.2 y
          exact ⟨by omega, by omega⟩)
        have hz := zTk_hit (Z0 := Z0) (Z1 := Z1) hcM hlim.2.2 i0 i1 ti (by omega) (fun j j0 j1 => tj j j0 j1 (by omega)) hit
        have hs := pMt_same (gAt_vr hg) hm
        have s1 : c1 6 0 0 = m 15 0 72 := by rw [k2 6 (by decide)]; exact h.stp
        by_cases hst : m 15 0 72 + 1 ≤ 50000
        · rw [if_pos hst] at hz
          have w2 : fn232 [9 * c0 6 0 7 + (g + 1), t] c1 = (0, 0, rUp (rUp c1 6 0 0 (c1 6 0 0 + 1)) 38 0 (c1 10 (9 * c0 6 0 7 + (g + 1)) 10) t) := by
            rw [fn232_eq, if_pos (by rw [s1]; exact hst)]
          rw [e7, k2 10 (by decide), s1] at w2
          obtain ⟨m5, f1, f2, f3, f4⟩ := fn63_on (mm := rUp (rUp m 15 0 72 (m 15 0 72 + 1)) 104 0 g t) (q := g + 8 * r) (t := t) (fun K a b => by rw [rUp_grp b, rUp_grp a]) (by omega) hs
          rw [f1] at hz
          obtain ⟨gv1, gv2⟩ := give_two hg hb hm k4 (k5 hp_q) f3 f4
          have em5 : eM m m5 := ⟨fun K a b d => by rw [f2 K a, rUp_grp b, rUp_grp d], fun j a b => by rw [f2 15 (by decide), rUp_ne (fun z => absurd z.1 (by decide)), rUp_ne (fun z => a z.2.2)]⟩
          have m572 : m5 15 0 72 = m 15 0 72 + 1 := by rw [f2 15 (by decide), rUp_ne (fun z => absurd z.1 (by decide)), rUp_at]
          have m577 : m5 15 0 77 = 0 := by rw [f2 15 (by decide), rUp_ne (fun z => absurd z.1 (by decide)), rUp_ne (fun z => absurd z.2.2 (by decide))]; exact h.bad
          have m5g : m5 104 0 g = t := by rw [f2 104 (by decide), rUp_at]
          have m5o : ∀ x, x ≠ g → m5 104 0 x = m 104 0 x := fun x hx => by rw [f2 104 (by decide), rUp_ne (fun z => hx z.2.2), rUp_ne (fun z => absurd z.1 (by decide))]
          obtain ⟨x13, hx13⟩ : ∃ x, (if t < c0 6 0 12 then c 6 0 13 else zF2 .iadd (c 6 0 13) 1) = x := ⟨_, rfl⟩
          obtain ⟨c3, hc3⟩ : ∃ x, rUp (rUp (rUp c1 6 0 0 (m 15 0 72 + 1)) 38 0 (c 10 (9 * R + (g + 1)) 10) t) 6 0 13 x13 = x := ⟨_, rfl⟩
          have ec3 : eC c c3 := by rw [← hc3]; exact eC_tr ec1 (eC_tr eC_up0 (eC_tr eC_up38 eC_up13))
          have c37 : c3 37 = c1 37 := by rw [← hc3, rUp_grp (by decide), rUp_grp (by decide), rUp_grp (by decide)]
          have c138 : c1 38 = c 38 := k2 38 (by decide)
          have fr0 := h.fr
          have fge := cn_ge (p := fun h => decide (m 77 0 (h + 8 * r) = 0) && decide (c 6 0 12 ≤ m 104 0 h)) g0
          have fle := cn_top (p := fun h => decide (m 77 0 (h + 8 * r) = 0) && decide (c 6 0 12 ≤ m 104 0 h)) g0
          have n8 := h.st.n8
          have ia := iadd_s (a := c 6 0 13) (by omega) (by omega)
          have fr5 : x13 = cn (fun h => decide (m 77 0 (h + 8 * r) = 0) && decide (c 6 0 12 ≤ m5 104 0 h)) (g + 1) := by
            rw [cn_s g0, ← hx13, e12]
            rw [cn_congr (q := fun h => decide (m 77 0 (h + 8 * r) = 0) && decide (c 6 0 12 ≤ m 104 0 h)) g0 (fun j j0 j1 => by rw [m5o j (by omega)]), ← fr0, m5g, decide_eq_true hk, Bool.true_and]
            by_cases b : t < c 6 0 12
            · rw [if_pos b, decide_eq_false (show ¬ c 6 0 12 ≤ t by omega), if_neg (by decide)]
              omega
            · rw [if_neg b, decide_eq_true (show c 6 0 12 ≤ t by omega), if_pos rfl]
              exact ia.1
          have hR : (wR N) J Q r R n kb (g + 1) c3 m5 := by
            refine wR_loc hJ h ec3 em5 m577 ?_ (by rw [m572]; have := h.st0; exact ⟨by omega, hst⟩) ?_ ?_ ?_
            · rw [← hc3, rUp_ne (fun z => absurd z.2.2 (by decide)), rUp_ne (fun z => absurd z.1 (by decide)), rUp_at, m572]
            · intro v v0 v1_q
              rw [c37]
              rcases h.st.at1 g v g0 g1 hk v0 v1_q with z | ⟨k, z1, z2, z3, z4⟩
              · have zz : qBt (m 79 0 (g + 8 * r)) v = 1 := by rw [← hkb]; exact z
                rw [(gv1 v v0 zz).1, (gv1 v v0 zz).2]
                exact h.bnd v v0 z
              · have gg := gv2 k z1 z2 z3
                rw [z4] at gg
                refine ⟨gg.1, ?_⟩
                rw [gg.2]
                exact h.vt t k t0 (by omega) z1 (by omega)
            · intro x x0 x1_q x2
              by_cases b : x = g
              · rw [b, m5g, ← hc3, rUp_ne (fun z => absurd z.1 (by decide)), rUp_at]
                exact ⟨rfl, t0, by omega⟩
              · have o1 := h.st.od x x0 (by omega) x2
                have o2 := h.st.od g g0 g1 hk
                have o3 := cn_s (p := fun h => decide (m 77 0 (h + 8 * r) = 0)) x0
                rw [if_pos (show (fun h => decide (m 77 0 (h + 8 * r) = 0)) x = true from decide_eq_true x2)] at o3
                have o4 := cn_le (p := fun h => decide (m 77 0 (h + 8 * r) = 0)) (g := x + 1) (x := g) (by omega) (by omega)
                rw [m5o x b, ← hc3, rUp_ne (fun z => absurd z.1 (by decide)), rUp_ne (fun z => by have := z.2.2; omega), rUp_ne (fun z => absurd z.1 (by decide)), c138]
                exact h.tkn x x0 (by omega) x2
            · rw [← hc3, rUp_at]
              exact fr5
          obtain ⟨o, c4, e4, hcs⟩ := hF c3 m5 hR
          have w3 := gTe_go (F := F) (Y := Y) (o := o) (v := 0) (c3 := c4) (k := g + 1) (met := met) (l := l) (fa := fa) (c0 := c0) (c := c) (c1 := c1) (c2 := rUp (rUp c1 6 0 0 (m 15 0 72 + 1)) 38 0 (c 10 (9 * R + (g + 1)) 10) t) t0 (show t < c0 6 0 11 by omega) (by omega) tl (by rw [e7]; exact k1) (by rw [e7]; exact w2) (by rw [hx13, hc3]; exact e4)
          rcases hcs with ⟨eo, m6, z6, hP6⟩ | ⟨eo, m6, z6, z7⟩ | ⟨eo, m6, z6, z7⟩
          · rw [eo, if_pos rfl, e7] at w3
            generalize hy13 : (if t < c0 6 0 12 then Y (c 6 0 13) c4 else zF2 .isub (Y (zF2 .iadd (c 6 0 13) 1) c4) 1) = y13 at w3
            generalize hc5 : rUp c4 6 0 13 y13 = c5 at w3
            have ec5 : eC c4 c5 := by rw [← hc5]; exact eC_up13
            have c412 : c4 6 0 12 = c 6 0 12 := (hP6.sc.2.2.2.2.2 12 (by decide) (by decide)).trans (ec3.2 12 (by decide) (by decide))
            have k677 : m6 77 = m 77 := (hP6.sm.1 77 (by decide) (by decide)).trans (em5.1 77 (by decide) (by decide) (by decide))
            have k577 : m5 77 = m 77 := em5.1 77 (by decide) (by decide) (by decide)
            have m6g : m6 104 0 g = t := (hP6.ft g g0 (by omega) (by rw [k577]; exact hk)).trans m5g
            have fr6 := hP6.rel.fr
            rw [cn_s g0, k677, c412, m6g, decide_eq_true hk, Bool.true_and] at fr6
            have f6e : cn (fun h => decide (m 77 0 (h + 8 * r) = 0) && decide (c 6 0 12 ≤ m6 104 0 h)) g = c 6 0 13 := by
              rw [fr0]
              refine cn_congr g0 (fun j j0 j1 => ?_)
              by_cases b : m 77 0 (j + 8 * r) = 0
              · rw [hP6.ft j j0 (by omega) (by rw [k577]; exact b), m5o j (by omega)]
              · rw [decide_eq_false b, Bool.false_and, Bool.false_and]
            have hy : y13 = c 6 0 13 := by
              rw [← hy13, e12]
              rw [f6e] at fr6
              by_cases b : t < c 6 0 12
              · rw [if_pos b]
                rw [decide_eq_false (show ¬ c 6 0 12 ≤ t by omega), if_neg (by decide)] at fr6
                exact hY _ _ (by omega)
              · rw [if_neg b]
                rw [decide_eq_true (show c 6 0 12 ≤ t by omega), if_pos rfl] at fr6
                rw [ia.1, hY _ _ fr6]
                exact ia.2
            have c5g : ∀ K : Nat, K ≠ 6 → c5 K = c4 K := fun K hK => by rw [← hc5, rUp_grp hK]
            have hR5 : (wR N) J Q r R n kb g c5 m6 := by
              refine wR_loc hJ hP6.rel ec5 eM_rfl hP6.rel.bad ?_ hP6.rel.st0 ?_ ?_ ?_
              · rw [← hc5, rUp_ne (fun z => absurd z.2.2 (by decide))]
                exact hP6.rel.stp
              · intro v v0 v1_q
                rw [c5g 37 (by decide)]
                exact hP6.rel.bnd v v0 (h.st.up g v g0 g1 v0 v1_q)
              · intro x x0 x1_q x2
                rw [c5g 38 (by decide)]
                exact hP6.rel.tkn x x0 (by omega) x2
              · rw [k677, c412, f6e, ← hc5, rUp_at]
                exact hy
            have hP5 : (wP N) J Q r R n kb g c m c5 m6 := by
              refine ⟨hR5, fun v v0 v1_q => ?_, fun x x0 x1_q x2 => ?_, tG_tr (eC_tG ec3) (tG_tr hP6.gr (eC_tG ec5)), sC_tr (eC_sC ec3) (sC_tr hP6.sc (eC_sC ec5)), sM_tr (eM_sM em5) hP6.sm, sK_tr (e_sK ec3 em5) (sK_tr hP6.sk (e_sK ec5 eM_rfl))⟩
              · have q1 := hP6.fb v v0 (h.st.up g v g0 g1 v0 v1_q)
                have q2 := gv1 v v0 (by rw [← hkb]; exact v1_q)
                rw [c5g 37 (by decide), q1.1, q1.2, c37]
                exact q2
              · rw [hP6.ft x x0 (by omega) (by rw [k577]; exact x2)]
                exact m5o x (by omega)
            obtain ⟨x, x1, x2⟩ := nxt c5 m6 hP5
            rw [x1] at w3
            have hL6 : m6 15 0 81 = L := by rw [hP5.sm.2.2.2 81 (by decide) (by decide)]; exact hL
            have n6 := hR5.tt.1
            have gr5 := hP5.gr.1
            have l6 := hR5.lim
            have a6 : pAs m6 r g = pAs m r g := by
              have q1 := asks_two h g0 g1 hk
              have q2 := asks_two hR5 g0 g1 (by rw [k677]; exact hk)
              rw [hP5.sc.1, hP5.sc.2.1, hP5.sc.2.2.2.2.2 10 (by decide) (by decide), show c5 6 0 13 = c 6 0 13 by rw [← hc5, rUp_at]; exact hy] at q2
              exact Bool.eq_iff_iff.mpr (q2.trans q1.symm)
            have z8 : Z1 (g + 1 - 1) m6 = zTk Z0 Z1 r g m6 (pTp m6 (m6 78 0 (g + 8 * r)) (t + 1)) := by
              rw [show g + 1 - 1 = g by omega, hI.at1 g m6 hR5.jm hR5.bad g0 (by rw [k677]; exact hk), m6g, hR5.tt.2.2.1.2.2.2 t t0 (by omega)]
              rw [← (hR5.tt.2.2.2 t t0 (by omega)).1, (hP5.gr.2 t t0 tn).1, v1, h93, hP5.sm.1 78 (by decide) (by decide)]
            have res := cont x (t + 1) c5 m6 hP5 hL6 (by rw [hP5.sc.2.2.2.2.2 12 (by decide) (by decide)]; exact e12) (by omega) (by omega) (by rw [a6, hP5.sc.2.2.2.2.2 12 (by decide) (by decide)]; exact hl) (by
              rcases x2 with ⟨y1, y2⟩ | ⟨y1, y2, y3, y4⟩
              · exact Or.inl ⟨y1, fun j j0 j1 => pTk_f (y2 j (by omega) (by omega))⟩
              · exact Or.inr ⟨by omega, y2, y3, fun j j0 j1 _ => pTk_f (y4 j (by omega) j1)⟩) (by rcases x2 with ⟨z, _⟩ | ⟨z, _⟩; exact Or.inl z; exact Or.inr z)
            exact wOut_on hP5 (zLoop_inl w3) (hz.trans (z6.trans z8)) res
          · rw [eo, if_neg (by decide), if_pos rfl] at w3
            exact ⟨1, c4, zLoop_inr w3, Or.inr (Or.inl ⟨rfl, m6, hz.trans z6, z7⟩)⟩
          · rw [eo, if_neg (by decide), if_neg (by decide)] at w3
            exact ⟨4, c4, zLoop_inr w3, Or.inr (Or.inr ⟨rfl, m6, hz.trans z6, z7⟩)⟩
        · rw [if_neg hst] at hz
          have w2 : fn232 [9 * c0 6 0 7 + (g + 1), t] c1 = (4, 0, rUp c1 6 0 0 (c1 6 0 0 + 1)) := by
            rw [fn232_eq, if_neg (by rw [s1]; exact hst)]
          obtain ⟨m5, f1, f2, f3, f4⟩ := fn63_on (mm := rUp (rUp (rUp m 15 0 72 (m 15 0 72 + 1)) 15 0 77 2) 104 0 g t) (q := g + 8 * r) (t := t) (fun K a b => by rw [rUp_grp b, rUp_grp a, rUp_grp a]) (by omega) hs
          rw [f1] at hz
          have m577 : m5 15 0 77 = 2 := by rw [f2 15 (by decide), rUp_ne (fun z => absurd z.1 (by decide)), rUp_at]
          exact ⟨4, _, zLoop_inr (gTe_thr t0 (by omega) (by omega) tl (by rw [e7]; exact k1) w2), Or.inr (Or.inr ⟨rfl, m5, hz.trans (hI.bad0 _ _ (by rw [m577]; decide)), m577⟩)⟩
      · -- it does not fit
        have hp_q : ¬ (decide (m 93 0 t = m 78 0 (g + 8 * r)) && pMt m (g + 8 * r) t) = true := hp
        rw [if_neg hp_q] at k1
        have hpf : pFt m (g + 8 * r) t = false := Bool.eq_false_iff.mpr hp
        have hR1 : (wR N) J Q r R n kb g c1 m := by
          refine wR_loc hJ h ec1 eM_rfl h.bad (by rw [k2 6 (by decide)]; exact h.stp) h.st0 (fun v v0 v1_q => ?_) (fun x x0 x1_q x2 => ?_) (by rw [k2 6 (by decide)]; exact h.fr)
          · rw [kept v v1_q]
            exact h.bnd v v0 v1_q
          · rw [k2 38 (by decide)]
            exact h.tkn x x0 x1_q x2
        have hP1 : (wP N) J Q r R n kb g c m c1 m := ⟨hR1, fun v v0 v1_q => ⟨kept v v1_q, rfl⟩, fun _ _ _ _ => rfl, eC_tG ec1, eC_sC ec1, eM_sM eM_rfl, e_sK ec1 eM_rfl⟩
        obtain ⟨x, x1, x2⟩ := nxt c1 m hP1
        have n1 := hR1.tt.1
        have res := cont x i c1 m hP1 hL (by rw [k2 6 (by decide)]; exact e12) i0 i1 (by rw [k2 6 (by decide)]; exact hl) (by
          have mid : ∀ j, i ≤ j → j ≤ t → j < L → pTk m (g + 8 * r) (pAs m r g) j = false := fun j j0 j1 j2 => by
            by_cases b : j = t
            · rw [b]; exact pTk_f hpf
            · exact tj j j0 (by omega) j2
          rcases x2 with ⟨z1, z2⟩ | ⟨z1, z2, z3, z4⟩
          · refine Or.inl ⟨z1, fun j j0 j1 => ?_⟩
            by_cases b : j ≤ t
            · exact mid j j0 b j1
            · exact pTk_f (z2 j (by omega) (by omega))
          · refine Or.inr ⟨by omega, z2, z3, fun j j0 j1 j2 => ?_⟩
            by_cases b : j ≤ t
            · exact mid j j0 b j2
            · exact pTk_f (z4 j (by omega) j1)) (by rcases x2 with ⟨z, _⟩ | ⟨z, _⟩; exact Or.inl z; exact Or.inr z)
        exact wOut_on hP1 (zLoop_inl (gTe_no t0 (by omega) (by omega) tl (by rw [e7]; exact k1) (by rw [e7]; exact x1))) rfl res
