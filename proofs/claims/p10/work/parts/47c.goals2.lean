/-! ===== is all KNOWN, are strays alone; the loop over GOALS ===== -/
noncomputable def qHd (H : Int → Prop) (c : rHp) (h : Int) : Prop := ∀ u, H u ↔ ∃ i, 0 ≤ i ∧ i < c 10 h 5 ∧ ((c 43 h i = 1 ∧ c 44 h i = u) ∨ (c 43 h i = 4 ∧ c 10 h 12 ≠ 1 ∧ c 10 h 14 = u))
theorem qHd_up {H : Int → Prop} {c c_q : rHp} {h : Int} (hh : qHd H c h) (h10 : c_q 10 h = c 10 h) (h43 : c_q 43 h = c 43 h) (h44 : c_q 44 h = c 44 h) : qHd H c_q h := by
  unfold qHd at hh ⊢
  rw [h10, h43, h44]
  exact hh
theorem head_iff {H : Int → Prop} {c : rHp} {h : Int} (hh : qHd H c h) : c 10 h 5 ≤ pIx (qHk c h) (c 10 h 5) 0 ↔ ∀ u, H u → qBt (c 2 0 5) u = 1 := by
  rw [pIx_all]
  constructor
  · intro a u hu
    obtain ⟨i, i0, i1, i2⟩ := (hh u).1 hu
    have b := a i i0 i1
    unfold qHk at b
    rcases i2 with ⟨j1, j2⟩ | ⟨j1, j2, j3⟩
    · rw [if_pos j1, j2] at b
      simpa using b
    · rw [if_neg (by omega), if_pos j1, if_neg j2, j3] at b
      simpa using b
  · intro a i i0 i1
    unfold qHk
    by_cases j1 : c 43 h i = 1
    · rw [if_pos j1]
      simpa using a _ ((hh _).2 ⟨i, i0, i1, Or.inl ⟨j1, rfl⟩⟩)
    · rw [if_neg j1]
      by_cases j2 : c 43 h i = 4
      · rw [if_pos j2]
        by_cases j3 : c 10 h 12 = 1
        · rw [if_pos j3]
        · rw [if_neg j3]
          simpa using a _ ((hh _).2 ⟨i, i0, i1, Or.inr ⟨j2, j3, rfl⟩⟩)
      · rw [if_neg j2]
/-- the class finds the HEAD KNOWN and strays alone just where the reference finds all paid -/
theorem paid_iff {H : Int → Prop} {c m : rHp} {h : Int} (hh : qHd H c h) (hV : qV c m) (hB : qB H c m) :
    (c 10 h 5 ≤ pIx (qHk c h) (c 10 h 5) 0 ∧ c 2 0 16 ≤ pIx (fun i => decide (c 23 0 (c 25 0 i) ≤ 1)) (c 2 0 16) 0) ↔ ∀ k, 0 ≤ k → k < m 15 0 58 → if m 91 0 k = 0 then qBt (m 15 0 45) (m 89 0 k) = 1 else qBt (m 90 0 k) (m 89 0 k) = 1 ∨ m 84 0 (m 89 0 k) = 1 := by
  obtain ⟨s1, ⟨a1, a2, a3, a4, a5, a6⟩, s3, s4, s5⟩ := hB
  obtain ⟨v1, v2, v3, v4⟩ := hV
  rw [head_iff hh, pIx_all]
  constructor
  · rintro ⟨x1, x2⟩ k k0 k1
    obtain ⟨b1, b2, b3⟩ := a4 k k0 k1
    by_cases t : m 91 0 k = 0
    · rw [if_pos t, ← s3]
      exact x1 _ ((a6 _).1 ⟨k, k0, k1, t, rfl⟩)
    · rw [if_neg t]
      by_cases hb : qBt (m 90 0 k) (m 89 0 k) = 1
      · exact Or.inl hb
      · right
        obtain ⟨i, i0, i1, i2⟩ := (a5 _).2 ⟨k, k0, k1, b3.resolve_left t, rfl, hb⟩
        have y := x2 i i0 i1
        simp only [decide_eq_true_eq, i2] at y
        have y2 := (v4 _ b1.1 b2).2
        have y3 := s1 _ b1.1 b2
        omega
  · intro x
    refine ⟨fun u hu => ?_, fun i i0 i1 => ?_⟩
    · obtain ⟨k, k0, k1, k2, k3⟩ := (a6 u).2 hu
      have y := x k k0 k1
      rw [if_pos k2, k3, ← s3] at y
      exact y
    · obtain ⟨k, k0, k1, k2, k3, k4⟩ := (a5 (c 25 0 i)).1 ⟨i, i0, i1, rfl⟩
      obtain ⟨b1, b2, b3⟩ := a4 k k0 k1
      have y := x k k0 k1
      rw [if_neg (by omega), k3] at y
      rw [k3] at b1 b2
      have y2 := (v4 _ b1.1 b2).2
      have y4 := y.resolve_left k4
      simp only [decide_eq_true_eq]
      omega
theorem fn8_fr {p : Int} {m : rHp} : fH 15 [] [36] m (fn8 [p] m).2.2 := by
  unfold fn8
  simp only [zLet, List.getD_cons_zero]
  split <;> exact fH_fld fH_refl (by decide)
/-- the end of a RULE: what the class answers, what the reference does -/
theorem rule_end {H : Int → Prop} {c m : rHp} {h : Int} (hh : qHd H c h) (hV : qV c m) (hB : qB H c m) :
    ∃ m_q, fn30 [] m = (0, 0, m_q) ∧ fH 15 [88, 89, 90, 91] [] m m_q ∧
    ((fn153 [h] c = (0, 1, c) ∧ fn152 [] c = (0, 1, c) ∧ fn28 [] m_q = (0, 1, m_q) ∧ ∀ u, H u → qBt (c 2 0 5) u = 1) ∨
     (∃ c_q m_q_q, ((fn153 [h] c = (0, 0, c_q)) ∨ (fn153 [h] c = (0, 1, c) ∧ fn152 [] c = (0, 0, c_q))) ∧ fn28 [] m_q = (0, 0, m_q_q) ∧ fH 2 [] [4] c c_q ∧ fH 15 [] [36] m_q m_q_q)) := by
  obtain ⟨m_q, f1, f2, f3⟩ := fn30_all [] m
  refine ⟨m_q, f1, f3, ?_⟩
  have e58 : m_q 15 0 58 = m 15 0 58 := f3.2 58 (by decide)
  have e45 : m_q 15 0 45 = m 15 0 45 := f3.2 45 (by decide)
  have e84 : m_q 84 = m 84 := f3.1 84 (by decide) (by decide)
  have hP : m_q 15 0 58 ≤ pIx (qPd m_q) (m_q 15 0 58) 0 ↔ ∀ k, 0 ≤ k → k < m 15 0 58 → if m 91 0 k = 0 then qBt (m 15 0 45) (m 89 0 k) = 1 else qBt (m 90 0 k) (m 89 0 k) = 1 ∨ m 84 0 (m 89 0 k) = 1 := by
    rw [pIx_all, e58, ← f2 (fun v kn t => if t = 0 then qBt (m 15 0 45) v = 1 else qBt kn v = 1 ∨ m 84 0 v = 1)]
    unfold qPd
    rw [e45, e84]
    constructor
    · intro a k k0 k1
      have b := a k k0 k1
      by_cases t : m_q 91 0 k = 0
      · rw [if_pos t] at b ⊢
        simpa using b
      · rw [if_neg t] at b ⊢
        simpa using b
    · intro a k k0 k1
      have b := a k k0 k1
      by_cases t : m_q 91 0 k = 0
      · rw [if_pos t] at b ⊢
        simpa using b
      · rw [if_neg t] at b ⊢
        simpa using b
  have key := (paid_iff hh hV hB).trans hP.symm
  have g28 := fn28_eq [] m_q
  have g152 := fn152_eq [] c
  have g153 := fn153_eq (h := h) (c := c)
  by_cases x1 : c 10 h 5 ≤ pIx (qHk c h) (c 10 h 5) 0
  · by_cases x2 : c 2 0 16 ≤ pIx (fun i => decide (c 23 0 (c 25 0 i) ≤ 1)) (c 2 0 16) 0
    · rw [if_pos x2] at g152
      rw [if_pos (key.1 ⟨x1, x2⟩)] at g28
      exact Or.inl ⟨g153.1 x1, g152, g28, (head_iff hh).1 x1⟩
    · rw [if_neg x2] at g152
      rw [if_neg (fun z => x2 (key.2 z).2)] at g28
      exact Or.inr ⟨_, _, Or.inr ⟨g153.1 x1, g152⟩, g28, fH_fld fH_refl (by decide), fn8_fr⟩
  · obtain ⟨p, x3⟩ := g153.2 x1
    rw [if_neg (fun z => x1 (key.2 z).1)] at g28
    exact Or.inr ⟨_, _, Or.inl x3, g28, fH_fld fH_refl (by decide), fn8_fr⟩
theorem gGs_H {E : Prop} {r R n k0 : Int} {c m c_q m_q : rHp} {L L2 : List Nat} {J J2 : List Int} (h : gGs E r R n k0 c m) (hn : 0 ≤ n) (hn8 : n ≤ 8) (fc : fH 2 L J c c_q) (hL : ∀ x ∈ [9, 10, 43, 44, 46], x ∉ L) (fm : fH 15 L2 J2 m m_q) (hL2 : ∀ x ∈ [66, 77, 78, 79, 80, 81], x ∉ L2) (hJ2 : ∀ x ∈ [(14 : Int), 45], x ∉ J2) : gGs E r R n k0 c_q m_q := by
  have k : ∀ x, x ∈ [9, 10, 43, 44, 46] → c_q x = c x := fun x z => fc.1 x (hL x z) (by rintro rfl; exact absurd z (by decide))
  have w : ∀ x, x ∈ [66, 77, 78, 79, 80, 81] → m_q x = m x := fun x z => fm.1 x (hL2 x z) (by rintro rfl; exact absurd z (by decide))
  exact gGs_up h hn hn8 (by rw [k 9 (by decide)]) (fun K g z _ _ => by rw [k K (by rcases z with rfl | rfl | rfl | rfl <;> decide)]) (fm.2 45 (hJ2 45 (by decide))) (fun K x z _ => by rw [w K (by rcases z with rfl | rfl | rfl <;> decide)]) (fun K x z _ => by rw [w K (by rcases z with rfl | rfl <;> decide)]) (by rw [fm.2 14 (hJ2 14 (by decide))]; exact Int.le_refl _) (fun p _ => by rw [w 66 (by decide)])
theorem qNx_in {n1 i a : Int} {c3 : rHp} (h0 : 0 ≤ i) (h8 : i < 8) : fD n1 c3 (qNx n1 i a c3) ∧ (∀ j, j ≠ 10 → qNx n1 i a c3 10 (i + 9 * n1 + 1) j = c3 10 (i + 9 * n1 + 1) j) ∧ ((c3 10 (i + 9 * n1 + 1) 4 = 1 ∧ qNx n1 i a c3 10 (i + 9 * n1 + 1) 10 = a ∧ qNx n1 i a c3 9 n1 3 = a + 1) ∨ (c3 10 (i + 9 * n1 + 1) 4 ≠ 1 ∧ qNx n1 i a c3 9 n1 3 = c3 9 n1 3)) ∧ ∀ K : Nat, K = 43 ∨ K = 44 ∨ K = 46 → qNx n1 i a c3 K = c3 K := by
  unfold qNx
  by_cases h : c3 10 (i + 9 * n1 + 1) 4 = 1
  · rw [if_pos h]
    refine ⟨⟨?_, fun x z => ?_, fun K x z1 z2 => ?_⟩, fun j z => ?_, Or.inl ⟨h, ?_, rUp_at⟩, fun K z => ?_⟩
    · rw [rUp_grp (by decide), rUp_grp (by decide), rUp_grp (by decide)]
    · funext y
      rw [rUp_ne (fun w => z w.2.1), rUp_grp (by decide), rUp_ne (fun w => z w.2.1)]
    · funext y
      rw [rUp_grp (by omega), rUp_ne (fun w => by have := w.2.1; omega), rUp_grp (by omega)]
    · rw [rUp_grp (by decide), rUp_ne (fun w => z w.2.2), rUp_grp (by decide)]
    · rw [rUp_grp (by decide), rUp_at]
    · rw [rUp_grp (by omega), rUp_grp (by omega), rUp_grp (by omega)]
  · rw [if_neg h]
    refine ⟨⟨rUp_grp (by decide), fun x z => ?_, fun K x z1 z2 => ?_⟩, fun j z => ?_, Or.inr ⟨h, ?_⟩, fun K z => ?_⟩
    · funext y
      rw [rUp_ne (fun w => z w.2.1)]
    · rw [rUp_grp (by omega)]
    · rw [rUp_grp (by decide)]
    · rw [rUp_ne (fun w => absurd w.2.2 (by decide))]
    · rw [rUp_grp (by omega)]
theorem fE_73 {r v : Int} {g : rHp} : fE r g (rUp g 73 0 r v) := by
  refine ⟨fun K x z1 z2 => ?_, fun K x z1 z2 => ?_, fun K x z1 z2 => ?_, fun K x z1 z2 => ?_, ?_, fun p _ => ?_⟩
  · rw [rUp_ne (fun w => by have := w.2.2; omega)]
  · rw [rUp_grp (by omega)]
  · rw [rUp_grp (by omega)]
  · rw [rUp_grp (by omega)]
  · rw [rUp_grp (by decide)]; exact Int.le_refl _
  · rw [rUp_grp (by decide)]
/-- what holds between GOALS, beside qR and qB -/
noncomputable def qI (E : Prop) (cS mS : rHp) (n1 n8 i : Int) (c m : rHp) : Prop := c 9 n1 2 = i ∧ m 73 0 n8 = i ∧ c 2 0 16 ≤ 4 * i ∧ fH 2 (9 :: lG) jG cS c ∧ fH 15 (73 :: lH) jH mS m ∧ (∀ G, G ∈ [10, 43, 44, 45, 46] → c G (9 * n1) = cS G (9 * n1)) ∧ fD n1 cS c ∧ fE n8 mS m ∧ gGs E n8 n1 i (mS 15 0 45) c m
/-- the GOALS of a RULE that is read -/
noncomputable def qFw (E : Prop) (H : Int → Prop) (n1 n8 : Int) (cS mS c m : rHp) : Prop := fD n1 cS c ∧ fE n8 mS m ∧ (∀ G, G ∈ [10, 43, 44, 45, 46] → c G (9 * n1) = cS G (9 * n1)) ∧ (∀ u, H u → qBt (m 15 0 45) u = 1) ∧ ∃ n, 0 ≤ n ∧ n ≤ 8 ∧ c 9 n1 2 = n ∧ m 73 0 n8 = n ∧ gGs E n8 n1 n (mS 15 0 45) c m
/-- both take the GOALS, or both find them BROKEN -/
noncomputable def qFi (H : Int → Prop) (c0 m0 : rHp) (n1 n8 : Int) (cS mS : rHp) (r s : zR) : Prop := (∃ c_q m_q, r = (0, 1, c_q) ∧ s = (0, 1, m_q) ∧ qR 0 c0 m0 c_q (rUp m_q 15 0 35 (m_q 15 0 35 + 1)) ∧ fH 2 (9 :: lG) jG cS c_q ∧ fH 15 (73 :: lH) jH mS m_q ∧ qFw (sN c0 m0) H n1 n8 cS mS c_q m_q) ∨ (∃ c_q m_q, r = (0, 0, c_q) ∧ s = (0, 0, m_q) ∧ qZ c0 m0 c_q m_q ∧ fD n1 cS c_q ∧ fE n8 mS m_q)
theorem qFt_no {n1 : Int} {m : rHp} : qFt n1 (0, 0, m) = (0, 0, m) := by
  unfold qFt
  exact if_neg (show ¬ (1 : Int) ≤ 0 by decide)
theorem goals_loop {H : Int → Prop} {c0 m0 cS mS : rHp} {n1 n8 : Int} (h00 : 0 ≤ c0 1000 0 0) (hlim : 2 * c0 1000 0 0 + m0 15 0 34 ≤ 10239) (hn1 : cS 40 0 (cS 1 0 10) = n1) (hn8 : mS 15 0 44 = n8) (hpu : cS 2 0 7 = 0) (hHd : qHd H cS (9 * n1)) (hcS : ∀ j, j ≠ 7 → cS 1 0 j = c0 1 0 j) (hne : m0 15 0 34 ≠ 0) :
    ∀ (k : Nat) (i : Int) (c m : rHp), i + k = 8 → 0 ≤ i → qR 0 c0 m0 c m → qB H c m → qI (sN c0 m0) cS mS n1 n8 i c m →
    qFi H c0 m0 n1 n8 cS mS (zLoop (en158 cS) (0, [], c)) (qFt (mS 15 0 34) (zLoop (en43 mS) (0, [1], m))) := by
  intro k
  induction k with
  | zero =>
    intro i c m hk hi hR hB hI
    obtain ⟨i1, i2, i3, i4, i5, i6, i7, i8, i9⟩ := hI
    have h8 : i = 8 := by omega
    subst h8
    obtain ⟨p, e1⟩ := en158_full hn1 i1
    have e2 := en43_full hn8 i2
    rw [zLoop_inr e1, zLoop_inr e2, qFt_no]
    have u1 : fH 2 [] [4, 6] c (rUp (fn114 [] c).2.2 2 0 4 p) := by
      rw [fn114_eq]
      exact fH_fld (fH_fld fH_refl (by decide)) (by decide)
    have u2 : fH 15 [] [35, 36] m (fn8 [(fn7 [] m).2.2 15 0 35] (fn7 [] m).2.2).2.2 := by
      rw [fn7_eq]
      exact fH_trans (fH_fld fH_refl (by decide)) (fH_sub fn8_fr (by decide) (by decide))
    exact Or.inr ⟨_, _, rfl, rfl, qZ_up hR (by decide) (fH_sub u1 (by decide) (by decide)) (fH_sub u2 (by decide) (by decide)), fD_tr i7 (fD_H u1 (by decide)), fE_tr i8 (fE_H u2 (by decide) (by decide))⟩
  | succ k ih =>
    intro i c m hk hi hR hB hI
    obtain ⟨i1, i2, i3, i4, i5, i6, i7, i8, i9⟩ := hI
    have h8 : i < 8 := by omega
    have hpc : c 2 0 7 = 0 := by rw [i4.2 7 (by decide)]; exact hpu
    have c10 : ∀ j, j ≠ 7 → c 1 0 j = cS 1 0 j := fun j hj => by rw [hcS j hj]; exact hR.2.2.2.2.2.2.1 j hj
    have hn1c : c 40 0 (c 1 0 10) = n1 := by rw [i4.1 40 (by decide) (by decide), c10 10 (by decide)]; exact hn1
    have hG : qG c = i + 9 * n1 + 1 := by
      unfold qG
      rw [hn1c, i1]
    have e42 : fn42 [] (fn7 [] m).2.2 = fn42 [] m := by rw [fn7_eq]; exact fn42_look
    have hQ : qQ0 m = i + 8 * n8 := by
      unfold qQ0
      rw [i5.2 44 (by decide), hn8, i2]
    have hc0 : c0 2 0 3 = m0 15 0 34 := by
      rw [← hR.2.2.2.2.2.1.2 3 (by decide), hR.1.1]
      exact hR.2.2.2.2.2.2.2.1.2 34 (by decide)
    have oc : fO (qG c) c (fn157 [] c).2.2 := fn157_o
    have ym : fY (qQ0 m) m (fn42 [] m).2.2 := fn42_y
    rcases goal_two hR hB h00 hlim (by omega) hpc with ⟨c3, m3, g1, g2, g3⟩ | ⟨c3, m3, g1, g2, g3⟩
    · obtain ⟨r1, r2, r3, r4, r5, r6, r7⟩ := g3
      rw [g1] at oc
      rw [g2] at ym
      have oc : fO (qG c) c c3 := oc
      have ym : fY (qQ0 m) m m3 := ym
      have nc3 : c3 2 0 3 ≠ 0 := by rw [r1.2.2.2.2.2.1.2 3 (by decide), hc0]; exact hne
      have nm3 : m3 15 0 34 ≠ 0 := by rw [r1.2.2.2.2.2.2.2.1.2 34 (by decide)]; exact hne
      obtain ⟨w1, w2, w3, w4, w5, w6, w7⟩ := ym nm3
      have D3 : fD n1 cS c3 := fD_tr i7 (fD_o oc nc3 (by rw [hG]; omega) (by rw [hG]; omega))
      have E3 : fE n8 mS m3 := fE_tr i8 (fE_y ym nm3 (by rw [hQ]; omega))
      have a1 := en158_go hn1 i1 h8 g1
      have a2 := en43_go hn8 i2 (show i ≠ 8 by omega) (e42.trans g2)
      obtain ⟨x1, x2, x3⟩ := qNx_fr (n1 := n1) (i := i) (a := c 9 n1 3) (c3 := c3)
      obtain ⟨x4, x5, x6, x7⟩ := qNx_in (n1 := n1) (i := i) (a := c 9 n1 3) (c3 := c3) hi h8
      have d3 : c3 9 n1 3 = c 9 n1 3 := by rw [(oc nc3).2.2.2.1]
      rw [d3] at x6
      generalize qNx n1 i (c 9 n1 3) c3 = c4 at *
      have y1 : fH 15 [73] [] m3 (rUp m3 73 0 n8 (i + 1)) := fH_grp fH_refl (by decide) (by decide)
      have y2 : rUp m3 73 0 n8 (i + 1) 73 0 n8 = i + 1 := rUp_at
      have y3 : fE n8 m3 (rUp m3 73 0 n8 (i + 1)) := fE_73
      generalize rUp m3 73 0 n8 (i + 1) = m4 at *
      have D4 : fD n1 cS c4 := fD_tr D3 x4
      have E4 : fE n8 mS m4 := fE_tr E3 y3
      have G4 : gGs (sN c0 m0) n8 n1 (i + 1) (mS 15 0 45) c4 m4 := by
        rw [hQ] at w4 w5
        rw [hG, i5.2 44 (by decide), hn8, i2] at r7
        rw [show i + 9 * n1 + 1 = 9 * n1 + (i + 1) by omega] at r7 x3 x5 x6
        refine gGs_add i9 hi h8 (by rw [← r2.2.2.1]; exact r2.2.2.2.1) r7 (fun K g z g0 g1 => ?_) (fun K x z1 z2 => by rw [y1.1 K (by rcases z1 with rfl | rfl | rfl <;> decide) (by omega)]; exact w4 K x z1 z2) (fun K x z1 z2 => by rw [y1.1 K (by rcases z1 with rfl | rfl <;> decide) (by omega)]; exact w5 K x z1 z2) (by rw [y1.2 14 (by decide)]; exact w6) (fun p z => by rw [y1.1 66 (by decide) (by decide)]; exact w7 p z) (fun j z => x5 j z) (fun K z => ?_) (fun K z => y1.1 K (by rcases z with rfl | rfl | rfl | rfl | rfl | rfl <;> decide) (by omega)) (y1.2 14 (by decide)) (y1.2 45 (by decide)) x6
        · rw [x3 K _ (by omega) (by omega)]
          exact r6 K _ (by rcases z with rfl | rfl | rfl | rfl <;> decide) (by rw [hG]; omega)
        · rw [x7 K z]
      have hR4 : qR 1 c0 m0 c4 m4 := by
        refine qR_up r1 (fH_sub x1 (by decide) (by decide)) (fH_sub y1 (by decide) (by decide)) ?_ ?_ ?_ ?_
        · rw [x1.2 6 (by decide), y1.2 35 (by decide)]; exact r1.2.1.1
        · rw [y1.2 35 (by decide)]; exact Int.le_refl _
        · rw [y1.2 35 (by decide)]; exact r1.2.1.2.1
        · rw [y1.2 35 (by decide)]; exact r1.2.1.2.2
      have hB4 : qB H c4 m4 := by
        obtain ⟨s1, s2, s3, s4, s5⟩ := r2
        have g74 : m4 74 0 (m4 15 0 44) = m3 74 0 (m3 15 0 44) := by rw [y1.1 74 (by decide) (by decide), y1.2 44 (by decide)]
        refine ⟨qS_up s1 (y1.2 44 (by decide)) (y1.1 74 (by decide) (by decide)) (y1.1 84 (by decide) (by decide)) (by rw [y1.2 35 (by decide)]; exact Int.le_refl _), qO_up s2 (x1.2 16 (by decide)) (x1.1 25 (by decide) (by decide)) (y1.2 58 (by decide)) (y1.1 89 (by decide) (by decide)) (y1.1 90 (by decide) (by decide)) (y1.1 91 (by decide) (by decide)) (by rw [g74]; exact Int.le_refl _), ?_, ?_, ?_⟩
        · rw [x1.2 5 (by decide), y1.2 45 (by decide)]; exact s3
        · rw [x1.2 5 (by decide)]; exact s4
        · rw [x1.2 5 (by decide), g74]; exact s5
      have F4 : fH 2 (9 :: lG) jG cS c4 := fH_trans (fH_trans i4 (fH_sub r4 (by decide) (by decide))) (fH_sub x1 (by decide) (by decide))
      have M4 : fH 15 (73 :: lH) jH mS m4 := fH_trans (fH_trans i5 (fH_sub r5 (by decide) (by decide))) (fH_sub y1 (by decide) (by decide))
      have hd4 : ∀ G, G ∈ [10, 43, 44, 45, 46] → c4 G (9 * n1) = cS G (9 * n1) := by
        intro G q
        rw [x3 G (9 * n1) (by omega) (by rintro rfl; exact absurd q (by decide)), r6 G (9 * n1) q (by rw [hG]; omega)]
        exact i6 G q
      have l4 : mS 15 0 34 = m4 15 0 34 := (M4.2 34 (by decide)).symm
      obtain ⟨q, L, k1, k2, k3, k4, k5, k6, k7⟩ := look_two hR4.1 hR4.2.1 [] []
      have n6 : rUp c4 2 0 6 q 2 0 6 = q := rUp_at
      have n35 : rUp m4 15 0 35 q 15 0 35 = q := rUp_at
      have n34 : rUp m4 15 0 35 q 15 0 34 = m4 15 0 34 := rUp_ne (by decide)
      have n59 : rUp m4 15 0 35 q 59 = m4 59 := rUp_grp (by decide)
      have at0 := hR4.2.1.2.1
      rw [k2] at a2
      simp only [n35, n34, n59, l4] at a2
      unfold qSg at a1
      rw [k1] at a1
      simp only [n6] at a1
      have i44 : (L = 44) = (pB (m4 59 0) (m4 15 0 34) q = 44) := qL_is k5 (by decide) (by decide)
      have i46 : (L = 46) = (pB (m4 59 0) (m4 15 0 34) q = 46) := qL_is k5 (by decide) (by decide)
      have f7 : fn7 [] (rUp m4 15 0 35 q) = (0, 0, rUp m4 15 0 35 q) := by
        rw [fn7_eq, n59, n34, n35, k7, rUp_two]
      have f8 : (fn8 [q] (rUp m4 15 0 35 q)).2.2 = rUp (rUp m4 15 0 35 q) 15 0 36 q := fn8_ge (by rw [n34]; exact k4)
      have hz : qZ c0 m0 (rUp (rUp c4 2 0 6 q) 2 0 4 q) (rUp (rUp m4 15 0 35 q) 15 0 36 q) := qZ_up hR4 (by decide) (fH_fld (fH_fld fH_refl (by decide)) (by decide)) (fH_fld (fH_fld fH_refl (by decide)) (by decide))
      have hzd : fD n1 cS (rUp (rUp c4 2 0 6 q) 2 0 4 q) := fD_tr D4 (fD_H (L := []) (J := [4, 6]) (fH_fld (fH_fld fH_refl (by decide)) (by decide)) (by decide))
      have hze : fE n8 mS (rUp (rUp m4 15 0 35 q) 15 0 36 q) := fE_tr E4 (fE_H (L := []) (J := [35, 36]) (fH_fld (fH_fld fH_refl (by decide)) (by decide)) (by decide) (by decide))
      rw [l4]
      by_cases hq : q < m4 15 0 34
      · have hL := k6.2 hq
        have hb : (0 : Int) ≤ -q + m4 15 0 34 + -1 := by omega
        rw [if_pos hL] at a1
        rw [if_pos hb] at a2
        by_cases h44 : L = 44
        · rw [if_pos (show L ≠ 46 by omega), if_pos h44] at a1
          have h44m : pB (m4 59 0) (m4 15 0 34) q = 44 := by rw [← i44]; exact h44
          rw [if_neg (fun z => z h44m)] at a2
          rw [zLoop_inl a1, zLoop_inl a2, ← l4]
          have o35 : rUp (rUp m4 15 0 35 q) 15 0 35 (q + 1) 15 0 35 = q + 1 := rUp_at
          have o6 : rUp (rUp c4 2 0 6 q) 2 0 6 (q + 1) 2 0 6 = q + 1 := rUp_at
          have fc : fH 2 [] [6] c4 (rUp (rUp c4 2 0 6 q) 2 0 6 (q + 1)) := fH_fld (fH_fld fH_refl (by decide)) (by decide)
          have fm : fH 15 [] [35] m4 (rUp (rUp m4 15 0 35 q) 15 0 35 (q + 1)) := fH_fld (fH_fld fH_refl (by decide)) (by decide)
          generalize rUp (rUp c4 2 0 6 q) 2 0 6 (q + 1) = c5 at *
          generalize rUp (rUp m4 15 0 35 q) 15 0 35 (q + 1) = m5 at *
          refine ih (i + 1) c5 m5 (by omega) (by omega) ?_ ?_ ⟨?_, ?_, ?_, ?_, ?_, ?_, fD_tr D4 (fD_H fc (by decide)), fE_tr E4 (fE_H fm (by decide) (by decide)), gGs_H G4 (by omega) (by omega) fc (by decide) fm (by decide) (by decide)⟩
          · refine qR_up hR4 (fH_sub fc (by decide) (by decide)) (fH_sub fm (by decide) (by decide)) ?_ ?_ ?_ ?_
            · rw [o6, o35]
            · rw [o35]; omega
            · rw [o35]; omega
            · rw [o35]; omega
          · exact qB_sign hB4 (fH_sub fc (by decide) (by decide)) (fH_sub fm (by decide) (by decide)) (by rw [o35]; omega)
          · rw [fc.1 9 (by decide) (by decide)]; exact x2
          · rw [fm.1 73 (by decide) (by decide)]; exact y2
          · rw [fc.2 16 (by decide), x1.2 16 (by decide)]; omega
          · exact fH_trans F4 (fH_sub fc (by decide) (by decide))
          · exact fH_trans M4 (fH_sub fm (by decide) (by decide))
          · intro G z
            rw [fc.1 G (memG z).2.2.2.2.2 (memG z).1]; exact hd4 G z
        · have h44m : pB (m4 59 0) (m4 15 0 34) q ≠ 44 := by rw [ne_eq, ← i44]; exact h44
          rw [if_pos h44m] at a2
          rw [zLoop_inl a2, zLoop_inr en43_end]
          unfold qFt
          simp only [f7, n35, n34, n59]
          rw [if_pos (show (1 : Int) ≤ 1 by decide), if_pos hb]
          by_cases h46 : L = 46
          · have h46m : pB (m4 59 0) (m4 15 0 34) q = 46 := by rw [← i46]; exact h46
            rw [if_neg (fun z => z h46)] at a1
            rw [if_pos h46m]
            have o6 : rUp (rUp c4 2 0 6 q) 2 0 6 (q + 1) 2 0 6 = q + 1 := rUp_at
            have fc : fH 2 [] [6] c4 (rUp (rUp c4 2 0 6 q) 2 0 6 (q + 1)) := fH_fld (fH_fld fH_refl (by decide)) (by decide)
            have fm : fH 15 [] [35] m4 (rUp m4 15 0 35 q) := fH_fld fH_refl (by decide)
            have hR5 : qR 0 c0 m0 (rUp (rUp c4 2 0 6 q) 2 0 6 (q + 1)) (rUp (rUp m4 15 0 35 q) 15 0 35 (q + 1)) := by
              refine qR_up hR4 (fH_sub fc (by decide) (by decide)) (fH_fld (fH_fld fH_refl (by decide)) (by decide)) ?_ ?_ ?_ ?_
              · rw [o6, rUp_at]
              · rw [rUp_at]; omega
              · rw [rUp_at]; omega
              · rw [rUp_at]; omega
            generalize rUp (rUp c4 2 0 6 q) 2 0 6 (q + 1) = c5 at *
            have hB5 : qB H c5 (rUp m4 15 0 35 q) := qB_sign hB4 (fH_sub fc (by decide) (by decide)) (fH_sub fm (by decide) (by decide)) (by rw [n35]; omega)
            have hV5 : qV c5 (rUp m4 15 0 35 q) := by
              have hv := hR5.2.2.2.2.1
              exact qV_up hv rfl rfl rfl (by rw [rUp_ne (by decide), rUp_ne (by decide), rUp_ne (by decide)]) (by rw [rUp_ne (by decide), rUp_ne (by decide), rUp_ne (by decide)]) (by rw [rUp_grp (by decide), rUp_grp (by decide), rUp_grp (by decide)]) (by rw [rUp_grp (by decide), rUp_grp (by decide), rUp_grp (by decide)]) (by rw [rUp_grp (by decide), rUp_grp (by decide), rUp_grp (by decide)]) (by rw [rUp_grp (by decide), rUp_grp (by decide), rUp_grp (by decide)]) (by rw [rUp_grp (by decide), rUp_grp (by decide), rUp_grp (by decide)])
            have hd5 : ∀ G, G ∈ [10, 43, 44, 45, 46] → c5 G (9 * n1) = cS G (9 * n1) := by
              intro G z
              rw [fc.1 G (memG z).2.2.2.2.2 (memG z).1]; exact hd4 G z
            have hH5 : qHd H c5 (9 * n1) := qHd_up hHd (hd5 10 (by decide)) (hd5 43 (by decide)) (hd5 44 (by decide))
            obtain ⟨m6, e1, e2, e3⟩ := rule_end hH5 hV5 hB5
            have fmm : fH 15 [88, 89, 90, 91] [35] m4 m6 := fH_trans (fH_sub fm (by decide) (by decide)) (fH_sub e2 (by decide) (by decide))
            rcases e3 with ⟨t1, t2, t3, t4⟩ | ⟨c_q, m_q_q, t1, t2, t3, t4⟩
            · rw [t1] at a1
              simp only [t2] at a1
              rw [if_pos (show (1 : Int) ≤ 1 by decide), if_pos (show (1 : Int) ≤ 1 by decide)] at a1
              rw [zLoop_inr a1, e1]
              simp only [t3]
              refine Or.inl ⟨c5, m6, rfl, if_pos (show (1 : Int) ≤ 1 by decide), ?_, fH_trans F4 (fH_sub fc (by decide) (by decide)), fH_trans (fH_trans M4 (fH_sub fm (by decide) (by decide))) (fH_sub e2 (by decide) (by decide)), fD_tr D4 (fD_H fc (by decide)), fE_tr E4 (fE_H fmm (by decide) (by decide)), hd5, fun u z => by rw [e2.2 45 (by decide), ← hB5.2.2.1]; exact t4 u z, i + 1, by omega, by omega, by rw [fc.1 9 (by decide) (by decide)]; exact x2, by rw [fmm.1 73 (by decide) (by decide)]; exact y2, gGs_H G4 (by omega) (by omega) fc (by decide) fmm (by decide) (by decide)⟩
              have w35 : m6 15 0 35 = q := (e2.2 35 (by decide)).trans n35
              rw [w35]
              refine qR_up hR5 fH_refl (m_q := rUp m6 15 0 35 (q + 1)) ?_ ?_ ?_ ?_ ?_
              · refine fH_trans (g1 := rUp m4 15 0 35 q) (fH_symm (fH_fld fH_refl (by decide))) (fH_trans (fH_sub e2 (by decide) (by decide)) (fH_fld fH_refl (by decide)))
              · rw [rUp_at]; exact hR5.2.1.1.trans rUp_at
              · rw [rUp_at, rUp_at]; exact Int.le_refl _
              · rw [rUp_at]; omega
              · rw [rUp_at, rUp_ne (by decide), n34]; omega
            · have hz5 : qZ c0 m0 c_q m_q_q := by
                refine qZ_up hR5 (by decide) (fH_sub t3 (by decide) (by decide)) (fH_trans (g1 := rUp m4 15 0 35 q) (fH_symm (fH_fld fH_refl (by decide))) (fH_trans (fH_sub e2 (by decide) (by decide)) (fH_sub t4 (by decide) (by decide))))
              have D5 : fD n1 cS c_q := fD_tr (fD_tr D4 (fD_H fc (by decide))) (fD_H t3 (by decide))
              have E5 : fE n8 mS m_q_q := fE_tr (fE_tr E4 (fE_H fmm (by decide) (by decide))) (fE_H t4 (by decide) (by decide))
              rw [e1]
              simp only [t2]
              rw [if_neg (show ¬ (1 : Int) ≤ 0 by decide)]
              rcases t1 with t1 | ⟨t1, t5⟩
              · rw [t1] at a1
                simp only at a1
                rw [if_neg (show ¬ (1 : Int) ≤ 0 by decide)] at a1
                rw [zLoop_inr a1]
                exact Or.inr ⟨_, _, rfl, rfl, hz5, D5, E5⟩
              · rw [t1] at a1
                simp only [t5] at a1
                rw [if_pos (show (1 : Int) ≤ 1 by decide), if_neg (show ¬ (1 : Int) ≤ 0 by decide)] at a1
                rw [zLoop_inr a1]
                exact Or.inr ⟨_, _, rfl, rfl, hz5, D5, E5⟩
          · have h46m : ¬ pB (m4 59 0) (m4 15 0 34) q = 46 := by rw [← i46]; exact h46
            rw [if_pos h46, if_neg h44] at a1
            rw [if_neg h46m, f8, zLoop_inr a1]
            exact Or.inr ⟨_, _, rfl, rfl, hz, hzd, hze⟩
      · have hb : ¬ (0 : Int) ≤ -q + m4 15 0 34 + -1 := by omega
        rw [if_neg (fun z => hq (k6.1 z))] at a1
        rw [if_neg hb] at a2
        rw [zLoop_inl a2, zLoop_inr en43_end, zLoop_inr a1]
        unfold qFt
        simp only [f7, n35, n34, n59]
        rw [if_pos (show (1 : Int) ≤ 1 by decide), if_neg hb, f8]
        exact Or.inr ⟨_, _, rfl, rfl, hz, hzd, hze⟩
    · rw [zLoop_inr (en158_bad hn1 i1 h8 g1), zLoop_inr (en43_bad hn8 i2 (show i ≠ 8 by omega) (e42.trans g2)), qFt_no]
      rw [g1] at oc
      rw [g2] at ym
      have oc : fO (qG c) c c3 := oc
      have ym : fY (qQ0 m) m m3 := ym
      have nc3 : c3 2 0 3 ≠ 0 := by rw [g3.2.2.1.2 3 (by decide), hc0]; exact hne
      have nm3 : m3 15 0 34 ≠ 0 := by rw [g3.2.2.2.2.1.2 34 (by decide)]; exact hne
      exact Or.inr ⟨_, _, rfl, rfl, g3, fD_tr i7 (fD_o oc nc3 (by rw [hG]; omega) (by rw [hG]; omega)), fE_tr i8 (fE_y ym nm3 (by rw [hQ]; omega))⟩
/-- the GOALS with the . behind them -/
theorem goals_two {H : Int → Prop} {c0 m0 c m : rHp} {n1 : Int} (hR : qR 0 c0 m0 c m) (hB : qB H c m) (h00 : 0 ≤ c0 1000 0 0) (hlim : 2 * c0 1000 0 0 + m0 15 0 34 ≤ 10239) (hn1 : c 40 0 (c 1 0 10) = n1) (h16 : c 2 0 16 = 0) (h73 : m 73 0 (m 15 0 44) = 0) (hpu : c 2 0 7 = 0) (hHd : qHd H c (9 * n1)) (hne : m0 15 0 34 ≠ 0) :
    qFi H c0 m0 n1 (m 15 0 44) c m (fn158 [] c) (qFt (m 15 0 34) (fn43 [] m)) := by
  have e1 : fn158 [] c = zLoop (en158 c) (0, [], rUp (rUp c 9 n1 2 0) 9 n1 3 0) := by
    unfold fn158 dn158
    simp only [zLet, hn1]
    rfl
  have e2 : fn43 [] m = zLoop (en43 m) (0, [1], m) := rfl
  have fc : fH 2 [9] [] c (rUp (rUp c 9 n1 2 0) 9 n1 3 0) := fH_grp (fH_grp fH_refl (by decide) (by decide)) (by decide) (by decide)
  have x2 : rUp (rUp c 9 n1 2 0) 9 n1 3 0 9 n1 2 = 0 := by rw [rUp_ne (fun y => absurd y.2.2 (by decide)), rUp_at]
  have x3 : rUp (rUp c 9 n1 2 0) 9 n1 3 0 9 n1 3 = 0 := rUp_at
  have dd : fD n1 c (rUp (rUp c 9 n1 2 0) 9 n1 3 0) := ⟨by rw [rUp_grp (by decide), rUp_grp (by decide)], fun h z => by funext y; rw [rUp_ne (fun w => z w.2.1), rUp_ne (fun w => z w.2.1)], fun K h z1 _ => by rw [rUp_grp (by omega), rUp_grp (by omega)]⟩
  rw [e1, e2]
  generalize rUp (rUp c 9 n1 2 0) 9 n1 3 0 = c1 at *
  refine goals_loop (H := H) (n1 := n1) (n8 := m 15 0 44) h00 hlim hn1 rfl hpu hHd (fun j hj => hR.2.2.2.2.2.2.1 j hj) hne 8 0 c1 m (by decide) (by decide) ?_ ?_ ⟨x2, h73, ?_, ?_, fH_refl, ?_, dd, fE_refl, gGs_nil rfl (by rw [← hB.2.2.1]; exact hB.2.2.2.1) x3⟩
  · refine qR_up hR (fH_sub fc (by decide) (by decide)) fH_refl ?_ (Int.le_refl _) hR.2.1.2.1 hR.2.1.2.2
    rw [fc.2 6 (by decide)]; exact hR.2.1.1
  · exact qB_c hB (fc.2 5 (by decide)) (fc.2 16 (by decide)) (fc.1 25 (by decide) (by decide))
  · rw [fc.2 16 (by decide), h16]; decide
  · exact fH_sub fc (by decide) (by decide)
  · intro G z
    rw [fc.1 G (by simp only [List.mem_cons, List.not_mem_nil, or_false] at z ⊢; omega) (memG z).1]
