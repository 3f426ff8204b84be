/-! ===== a GOAL that a ! begins ===== -/
theorem zLoop_cong {E E_q : (Nat × List Int × rHp) → zSt} {P : (Nat × List Int × rHp) → Prop} (h : ∀ s, P s → E s = E_q s) (hp : ∀ s s_q, P s → E_q s = .inl s_q → P s_q) {s : Nat × List Int × rHp} (hs : P s) : zLoop E s = zLoop E_q s := by
  have key : ∀ (f : Nat) (s : Nat × List Int × rHp), P s → zIt E f s = zIt E_q f s := by
    intro f
    induction f with
    | zero => intro s _; rfl
    | succ f ih =>
      intro s hs
      unfold zIt
      rw [h s hs]
      cases e : E_q s with
      | inl s_q => exact ih s_q (hp s s_q hs e)
      | inr r => rfl
  by_cases hx : ∃ r, ∃ f, zIt E_q f s = some r
  · obtain ⟨r, f, e⟩ := hx
    rw [zLoop_at e, zLoop_at (E := E) ((key f s hs).trans e)]
  · have hx2 : ¬ ∃ r, ∃ f, zIt E f s = some r := by
      rintro ⟨r, f, e⟩
      exact hx ⟨r, f, (key f s hs).symm.trans e⟩
    unfold zLoop
    rw [dif_neg hx, dif_neg hx2]
theorem fn145_look {A : rHp} {kind : Int} : fn145 [kind] (rUp A 2 0 6 (pSk (A 21 0) (A 2 0 3) (A 2 0 6))) = fn145 [kind] A := by
  generalize hq : pSk (A 21 0) (A 2 0 3) (A 2 0 6) = q
  have cm : ∀ (g : rHp) (G : Nat) (k j v : Int), G ≠ 2 → rUp (rUp g 2 0 6 q) G k j v = rUp (rUp g G k j v) 2 0 6 q := fun g G k j v z => rUp_comm (fun y => z y.1.symm)
  have k : ∀ (G : Nat), G ≠ 2 → rUp A 2 0 6 q G = A G := fun G z => rUp_grp z
  have k8 : rUp A 2 0 6 q 2 0 8 = A 2 0 8 := rUp_ne (by decide)
  have k9 : rUp A 2 0 6 q 2 0 9 = A 2 0 9 := rUp_ne (by decide)
  have k5 : rUp A 2 0 6 q 2 0 5 = A 2 0 5 := rUp_ne (by decide)
  have k1 := k 1 (by decide)
  have k40 := k 40 (by decide)
  have kn9 := k 9 (by decide)
  have f103 : ∀ w p, fn103 [kind, w, p] (rUp A 2 0 6 q) = (0, 0, rUp (fn103 [kind, w, p] A).2.2 2 0 6 q) := by
    intro w p
    unfold fn103
    simp only [zLet, List.getD_cons_zero, List.getD_cons_succ, fn99_eq, k1, k40, kn9, cm _ 10 _ _ _ (by decide), cm _ 46 _ _ _ (by decide)]
  have hd : dn145 [kind] (rUp A 2 0 6 q) = dn145 [kind] A := by
    obtain ⟨cK, h1, h2, h3, h4, h5, h6⟩ := fn103_all (c := A) (k := kind) (w := A 2 0 8) (p := A 2 0 9)
    have e114 : fn114 [] (rUp cK 2 0 6 q) = fn114 [] cK := by
      rw [fn114_eq, fn114_eq, rUp_at, rUp_two, rUp_grp (show (21 : Nat) ≠ 2 by decide), rUp_ne (show ¬ ((2 : Nat) = 2 ∧ (0 : Int) = 0 ∧ (3 : Int) = 6) by decide), h2.1 21 (by decide) (by decide), h2.2 3 (by decide), h2.2 6 (by decide), ← hq, pSk_idem]
    unfold dn145
    simp only [zLet, List.getD_cons_zero, k8, k9, f103, h1, e114]
  unfold fn145
  rw [hd]
  cases e : dn145 [kind] A with
  | inr r => rfl
  | inl s =>
    have hs : s.1 = 0 := by
      unfold dn145 at e
      simp only [zLet] at e
      split at e
      · split at e
        · cases e; rfl
        · cases e
      · cases e
    show zLoop (en145 (rUp A 2 0 6 q)) s = zLoop (en145 A) s
    refine zLoop_cong (P := fun s => s.1 = 0) ?_ ?_ hs
    · intro s hs
      unfold en145
      simp only [zLet, k1, k40, kn9, k5]
      rw [if_pos hs, if_pos hs]
    · intro s s_q hs e
      unfold en145 at e
      simp only [zLet] at e
      rw [if_pos hs] at e
      repeat' split at e
      all_goals first | (cases e; rfl) | cases e
theorem goal_not {H : Int → Prop} {c0 m0 c m : rHp} {p L : Int} (hR : qR 0 c0 m0 c m) (hB : qB H c m) (h00 : 0 ≤ c0 1000 0 0) (hlim : 2 * c0 1000 0 0 + m0 15 0 34 ≤ 10239) (hst : c 2 0 16 ≤ 28) (hpu : c 2 0 7 = 0) (k1 : fn114 [] c = (0, L, rUp c 2 0 6 p)) (k2 : fn7 [] m = (0, 0, rUp m 15 0 35 p)) (k3 : m 15 0 35 ≤ p) (hn : p < m 15 0 34) (hL : 0 ≤ L) (k5 : qL L (m 59 0 p)) (k7 : pSk (m 59 0) (m 15 0 34) p = p)
    (h33 : m 59 0 p = 33) : qGo H c0 m0 c m (fn157 [] c) (fn42 [] m) := by
  obtain ⟨c1, m3, e1, e3, hR1, hB1, fc, fm, y35, x6, hsk, f6⟩ := goal_pre hR hB k3 (by omega) k7
  rw [e1] at k1
  have f33 : ∀ g : rHp, (fn33 [] g).2.2 = g := fun g => rfl
  have a0 := hR.2.1.2.1
  have yl : rUp m 15 0 35 p 15 0 35 = p := rUp_at
  have y34 : m3 15 0 34 = m 15 0 34 := fm.2 34 (by decide)
  have y59 : m3 59 = m 59 := fm.1 59 (by decide) (by decide)
  have f6p : fn6 [p] m3 = (0, m 59 0 p, m3) := by rw [f6, pB_in hn]
  have hb1 : (0 : Int) ≤ -p + m 15 0 34 + -1 := by omega
  have hL33 : L = 33 := by rw [qL_is k5 (by decide) (by decide)]; exact h33
  have fc2 : fH 2 [] [6] c (rUp c1 2 0 6 (p + 1)) := fH_fld fc (by decide)
  have fm2 : fH 15 [79] [35] m (rUp m3 15 0 35 (p + 1)) := fH_fld fm (by decide)
  have x62 : rUp c1 2 0 6 (p + 1) 2 0 6 = p + 1 := rUp_at
  have y352 : rUp m3 15 0 35 (p + 1) 15 0 35 = p + 1 := rUp_at
  have E1 : fn157 [] c = (if 0 ≤ (fn114 [] (rUp c1 2 0 6 (p + 1))).2.1 then (if pSm (fn114 [] (rUp c1 2 0 6 (p + 1))).2.1 = true then (if 1 ≤ (fn115 [] (fn114 [] (rUp c1 2 0 6 (p + 1))).2.2).2.1 then (if 1 ≤ (fn145 [2] (fn115 [] (fn114 [] (rUp c1 2 0 6 (p + 1))).2.2).2.2).2.1 then (0, 1, (fn145 [2] (fn115 [] (fn114 [] (rUp c1 2 0 6 (p + 1))).2.2).2.2).2.2) else (0, 0, (fn145 [2] (fn115 [] (fn114 [] (rUp c1 2 0 6 (p + 1))).2.2).2.2).2.2)) else (0, 0, (fn115 [] (fn114 [] (rUp c1 2 0 6 (p + 1))).2.2).2.2)) else (0, 0, rUp (fn114 [] (rUp c1 2 0 6 (p + 1))).2.2 2 0 4 ((fn114 [] (rUp c1 2 0 6 (p + 1))).2.2 2 0 6))) else (0, 0, rUp (fn114 [] (rUp c1 2 0 6 (p + 1))).2.2 2 0 4 ((fn114 [] (rUp c1 2 0 6 (p + 1))).2.2 2 0 6))) := by
    unfold fn157
    simp only [zLet, k1, x6, fn105_eq, pBit_ge, fn109_eq]
    rw [if_pos hL, if_neg (fun z => z hL33)]
  have E2 : fn42 [] m = (if 1 ≤ (fn23 [] (rUp m3 15 0 35 (p + 1))).2.1 then (if 0 ≤ -(fn7 [] (fn23 [] (rUp m3 15 0 35 (p + 1))).2.2).2.2 15 0 35 + m 15 0 34 + (-1) then (if pB ((fn7 [] (fn23 [] (rUp m3 15 0 35 (p + 1))).2.2).2.2 59 0) ((fn7 [] (fn23 [] (rUp m3 15 0 35 (p + 1))).2.2).2.2 15 0 34) ((fn7 [] (fn23 [] (rUp m3 15 0 35 (p + 1))).2.2).2.2 15 0 35) ≠ 40 then (0, 0, (fn8 [(fn7 [] (fn23 [] (rUp m3 15 0 35 (p + 1))).2.2).2.2 15 0 35] (fn7 [] (fn23 [] (rUp m3 15 0 35 (p + 1))).2.2).2.2).2.2) else (if 1 ≤ (fn41 [1] (fn7 [] (fn23 [] (rUp m3 15 0 35 (p + 1))).2.2).2.2).2.1 then (0, 1, (fn41 [1] (fn7 [] (fn23 [] (rUp m3 15 0 35 (p + 1))).2.2).2.2).2.2) else (0, 0, (fn41 [1] (fn7 [] (fn23 [] (rUp m3 15 0 35 (p + 1))).2.2).2.2).2.2))) else (0, 0, (fn8 [(fn7 [] (fn23 [] (rUp m3 15 0 35 (p + 1))).2.2).2.2 15 0 35] (fn7 [] (fn23 [] (rUp m3 15 0 35 (p + 1))).2.2).2.2).2.2)) else (0, 0, (fn23 [] (rUp m3 15 0 35 (p + 1))).2.2)) := by
    unfold fn42
    simp only [zLet, k2, f33, yl, e3, f6p, fn6_eq]
    rw [if_pos hb1, if_neg (fun z => z h33)]
  generalize rUp c1 2 0 6 (p + 1) = cA at *
  generalize rUp m3 15 0 35 (p + 1) = mA at *
  have yA34 : mA 15 0 34 = m 15 0 34 := fm2.2 34 (by decide)
  have yA59 : mA 59 = m 59 := fm2.1 59 (by decide) (by decide)
  have hRA : qR 0 c0 m0 cA mA := by
    refine qR_up hR (fH_sub fc2 (by decide) (by decide)) (fH_sub fm2 (by decide) (by decide)) ?_ ?_ ?_ ?_
    · rw [x62, y352]
    · rw [y352]; omega
    · rw [y352]; omega
    · rw [y352]; omega
  obtain ⟨q, L2, l1, l2, l3, l4, l5, l6, l7⟩ := look_two hRA.1 hRA.2.1 [] []
  rw [y352] at l3
  rw [yA34] at l4 l5 l6 l7
  rw [yA59] at l5 l7
  have fcB : fH 2 [] [6] cA (rUp cA 2 0 6 q) := fH_fld fH_refl (by decide)
  have fmB : fH 15 [] [35] mA (rUp mA 15 0 35 q) := fH_fld fH_refl (by decide)
  have xB : rUp cA 2 0 6 q 2 0 6 = q := rUp_at
  have yB : rUp mA 15 0 35 q 15 0 35 = q := rUp_at
  have hRB : qR 0 c0 m0 (rUp cA 2 0 6 q) (rUp mA 15 0 35 q) := by
    refine qR_up hRA (fH_sub fcB (by decide) (by decide)) (fH_sub fmB (by decide) (by decide)) ?_ ?_ ?_ ?_
    · rw [xB, yB]
    · rw [yB]; omega
    · rw [yB]; omega
    · rw [yB, yA34]; exact l4
  have h23 : fn23 [] mA = if q < m 15 0 34 ∧ pSm (m 59 0 q) = true then (if 1 ≤ (fn12 [] (rUp mA 15 0 35 q)).2.1 then (0, 1, (fn12 [] (rUp mA 15 0 35 q)).2.2) else (0, 0, (fn12 [] (rUp mA 15 0 35 q)).2.2)) else (0, 0, rUp (rUp mA 15 0 35 q) 15 0 36 q) := by
    have z59 : rUp mA 15 0 35 q 59 = m 59 := by rw [rUp_grp (by decide)]; exact yA59
    have z34 : rUp mA 15 0 35 q 15 0 34 = m 15 0 34 := by rw [rUp_ne (by decide)]; exact yA34
    unfold fn23
    simp only [zLet, l2, yB, yA34, fn6_eq, z59, z34, fn9_eq, pBit_ge, fn8_eq (show q ≤ rUp mA 15 0 35 q 15 0 34 by rw [z34]; exact l4)]
    by_cases hq : q < m 15 0 34
    · rw [if_pos (show (0 : Int) ≤ -q + m 15 0 34 + -1 by omega), pB_in hq]
      by_cases hs : pSm (m 59 0 q) = true
      · rw [if_pos hs, if_pos (show q < m 15 0 34 ∧ pSm (m 59 0 q) = true from ⟨hq, hs⟩)]
      · rw [if_neg hs, if_neg (show ¬ (q < m 15 0 34 ∧ pSm (m 59 0 q) = true) from fun z => hs z.2)]
    · rw [if_neg (show ¬ (0 : Int) ≤ -q + m 15 0 34 + -1 by omega), if_neg (show ¬ (q < m 15 0 34 ∧ pSm (m 59 0 q) = true) from fun z => hq z.1)]
  rw [l1] at E1
  simp only at E1
  have hzB : qZ c0 m0 (rUp (rUp cA 2 0 6 q) 2 0 4 q) (rUp (rUp mA 15 0 35 q) 15 0 36 q) := qZ_up hRB (by decide) (fH_fld fH_refl (by decide)) (fH_fld fH_refl (by decide))
  by_cases hq : q < m 15 0 34 ∧ pSm (m 59 0 q) = true
  · rw [if_pos hq] at h23
    have hL2 : 0 ≤ L2 := l6.2 hq.1
    have hs2 : pSm L2 = true := by rw [qL_sm l5, pB_in hq.1]; exact hq.2
    rw [if_pos hL2, if_pos hs2] at E1
    rcases word_two (q := pSm) hRB.1 hRB.2.1 (by rw [yB, rUp_ne (by decide), yA34]; exact hq.1) (by rw [yB, rUp_grp (by decide), yA59]; exact hq.2) [] [] with ⟨e, w, w1, w2, w3, w4, w5⟩ | ⟨e, w, w1, w2⟩
    · rw [yB] at w1 w2 w3 w5
      rw [rUp_ne (show ¬ ((15 : Nat) = 15 ∧ (0 : Int) = 0 ∧ (34 : Int) = 35) by decide), yA34] at w4 w5
      rw [rUp_grp (show (59 : Nat) ≠ 15 by decide), yA59] at w5
      rw [w2] at h23
      rw [if_pos (show (1 : Int) ≤ 1 by decide)] at h23
      rw [w1] at E1
      rw [if_pos (show (1 : Int) ≤ 1 by decide)] at E1
      simp only at E1 h23
      have fA : fH 2 [] [6, 8, 9] c (rUp (rUp (rUp (rUp cA 2 0 6 q) 2 0 9 q) 2 0 8 w) 2 0 6 e) := fH_fld (fH_fld (fH_fld (fH_fld (fH_sub fc2 (by decide) (by decide)) (by decide)) (by decide)) (by decide)) (by decide)
      have x8 : rUp (rUp (rUp (rUp cA 2 0 6 q) 2 0 9 q) 2 0 8 w) 2 0 6 e 2 0 8 = w := by rw [rUp_ne (by decide), rUp_at]
      have x6e : rUp (rUp (rUp (rUp cA 2 0 6 q) 2 0 9 q) 2 0 8 w) 2 0 6 e 2 0 6 = e := rUp_at
      have fM : fH 15 [79] [35, 37, 38] m (rUp (rUp (rUp (rUp mA 15 0 35 q) 15 0 37 q) 15 0 38 (e - q)) 15 0 35 e) := fH_fld (fH_fld (fH_fld (fH_fld (fH_sub fm2 (by decide) (by decide)) (by decide)) (by decide)) (by decide)) (by decide)
      have z35 : rUp (rUp (rUp (rUp mA 15 0 35 q) 15 0 37 q) 15 0 38 (e - q)) 15 0 35 e 15 0 35 = e := rUp_at
      have z38 : rUp (rUp (rUp (rUp mA 15 0 35 q) 15 0 37 q) 15 0 38 (e - q)) 15 0 35 e 15 0 38 = e - q := by rw [rUp_ne (by decide), rUp_at]
      have z37 : rUp (rUp (rUp (rUp mA 15 0 35 q) 15 0 37 q) 15 0 38 (e - q)) 15 0 35 e 15 0 37 = q := by rw [rUp_ne (by decide), rUp_ne (by decide), rUp_at]
      generalize rUp (rUp (rUp (rUp cA 2 0 6 q) 2 0 9 q) 2 0 8 w) 2 0 6 e = A at *
      generalize rUp (rUp (rUp (rUp mA 15 0 35 q) 15 0 37 q) 15 0 38 (e - q)) 15 0 35 e = M at *
      have z34 : M 15 0 34 = m 15 0 34 := fM.2 34 (by decide)
      have z59 : M 59 = m 59 := fM.1 59 (by decide) (by decide)
      have hRM : qR 0 c0 m0 A M := by
        refine qR_up hR (fH_sub fA (by decide) (by decide)) (fH_sub fM (by decide) (by decide)) ?_ ?_ ?_ ?_
        · rw [x6e, z35]
        · rw [z35]; omega
        · rw [z35]; omega
        · rw [z35]; exact w4
      obtain ⟨q2, L3, j1, j2, j3, j4, j5, j6, j7⟩ := look_two hRM.1 hRM.2.1 [] []
      rw [z35] at j3
      rw [z34] at j4 j5 j6 j7
      rw [z59] at j5 j7
      have elook : fn145 [2] (rUp A 2 0 6 q2) = fn145 [2] A := by
        have := congrArg (fun r => r.2.2) (j1.symm.trans (fn114_eq [] A))
        simp only at this
        rw [this]
        exact fn145_look
      rw [← elook] at E1
      rw [h23] at E2
      simp only [j2] at E2
      rw [if_pos (show (1 : Int) ≤ 1 by decide)] at E2
      have fcA : fH 2 [] [6, 8, 9] c (rUp A 2 0 6 q2) := fH_fld fA (by decide)
      have fmM : fH 15 [79] [35, 37, 38] m (rUp M 15 0 35 q2) := fH_fld fM (by decide)
      have u6 : rUp A 2 0 6 q2 2 0 6 = q2 := rUp_at
      have u8 : rUp A 2 0 6 q2 2 0 8 = w := by rw [rUp_ne (by decide)]; exact x8
      have v35 : rUp M 15 0 35 q2 15 0 35 = q2 := rUp_at
      have v37 : rUp M 15 0 35 q2 15 0 37 = q := by rw [rUp_ne (by decide)]; exact z37
      have v38 : rUp M 15 0 35 q2 15 0 38 = e - q := by rw [rUp_ne (by decide)]; exact z38
      generalize rUp A 2 0 6 q2 = A2 at *
      generalize rUp M 15 0 35 q2 = M2 at *
      have v34 : M2 15 0 34 = m 15 0 34 := fmM.2 34 (by decide)
      have v59 : M2 59 = m 59 := fmM.1 59 (by decide) (by decide)
      rw [v35, v34, v59] at E2
      have hR2 : qR 0 c0 m0 A2 M2 := by
        refine qR_up hR (fH_sub fcA (by decide) (by decide)) (fH_sub fmM (by decide) (by decide)) ?_ ?_ ?_ ?_
        · rw [u6, v35]
        · rw [v35]; omega
        · rw [v35]; omega
        · rw [v35]; exact j4
      have hB2 : qB H A2 M2 := by
        obtain ⟨s1, s2, s3, s4, s5⟩ := hB
        have g74 : M2 74 0 (M2 15 0 44) = m 74 0 (m 15 0 44) := by rw [fmM.1 74 (by decide) (by decide), fmM.2 44 (by decide)]
        refine ⟨qS_up s1 (fmM.2 44 (by decide)) (fmM.1 74 (by decide) (by decide)) (fmM.1 84 (by decide) (by decide)) (by rw [v35]; omega), qO_up s2 (fcA.2 16 (by decide)) (fcA.1 25 (by decide) (by decide)) (fmM.2 58 (by decide)) (fmM.1 89 (by decide) (by decide)) (fmM.1 90 (by decide) (by decide)) (fmM.1 91 (by decide) (by decide)) (by rw [g74]; exact Int.le_refl _), ?_, ?_, ?_⟩
        · rw [fcA.2 5 (by decide), fmM.2 45 (by decide)]; exact s3
        · rw [fcA.2 5 (by decide)]; exact s4
        · rw [fcA.2 5 (by decide), g74]; exact s5
      have hW2 : qW pSm (M2 59 0) (M2 15 0 34) (A2 2 0 8) (M2 15 0 37) (M2 15 0 38) := by
        rw [v59, v34, v37, v38, u8]
        exact w5
      have hsk2 : pSk (M2 59 0) (M2 15 0 34) (M2 15 0 35) = M2 15 0 35 := by rw [v59, v34, v35]; exact j7
      rw [E1, E2]
      by_cases h40 : q2 < m 15 0 34 ∧ m 59 0 q2 = 40
      · rw [if_pos (show (0 : Int) ≤ -q2 + m 15 0 34 + -1 by omega), pB_in h40.1, if_neg (show ¬ m 59 0 q2 ≠ 40 from fun z => z h40.2)]
        rcases atom_two (kind := 2) (n0 := 1) hR2 hB2 h00 hlim (Or.inr ⟨rfl, rfl⟩) (by rw [fcA.2 16 (by decide)]; exact hst) (by rw [fcA.2 7 (by decide)]; exact hpu) hW2 hsk2 (by rw [v35, v34]; exact h40.1) (by rw [v59, v35]; exact h40.2) with ⟨c_q, m_q, r1, r2, r3⟩ | ⟨c_q, m_q, r1, r2, r3⟩
        · rw [r1, r2]
          exact Or.inl ⟨c_q, m_q, rfl, rfl, qE_qGl r3 fcA fmM (Or.inr rfl)⟩
        · rw [r1, r2]
          exact Or.inr ⟨c_q, m_q, rfl, rfl, r3⟩
      · obtain ⟨c_q, r1, r2⟩ := atom_not (kind := 2) hR2 hsk2 (by rw [v35, v34, v59]; exact h40)
        have f8 : (fn8 [q2] M2).2.2 = rUp M2 15 0 36 q2 := fn8_ge (by rw [v34]; exact j4)
        refine Or.inr ⟨c_q, rUp M2 15 0 36 q2, by rw [r1]; rfl, ?_, qZ_up hR2 (by decide) r2 (fH_fld fH_refl (by decide))⟩
        by_cases hq2 : q2 < m 15 0 34
        · rw [if_pos (show (0 : Int) ≤ -q2 + m 15 0 34 + -1 by omega), pB_in hq2, if_pos (show m 59 0 q2 ≠ 40 from fun z => h40 ⟨hq2, z⟩), f8]
        · rw [if_neg (show ¬ (0 : Int) ≤ -q2 + m 15 0 34 + -1 by omega), f8]
    · rw [yB] at w1 w2
      rw [w2] at h23
      rw [if_neg (show ¬ (1 : Int) ≤ 0 by decide)] at h23
      rw [w1] at E1
      rw [if_neg (show ¬ (1 : Int) ≤ 0 by decide)] at E1
      rw [E1, E2, h23]
      exact Or.inr ⟨_, _, rfl, rfl, qZ_up hRB (by decide) (fH_fld (fH_fld (fH_fld (fH_fld fH_refl (by decide)) (by decide)) (by decide)) (by decide)) (fH_fld (fH_fld (fH_fld fH_refl (by decide)) (by decide)) (by decide))⟩
  · rw [if_neg hq] at h23
    rw [E1, E2, h23, xB]
    refine Or.inr ⟨_, _, ?_, rfl, hzB⟩
    by_cases hL2 : 0 ≤ L2
    · rw [if_pos hL2, if_neg (fun z => hq ⟨l6.1 hL2, by rw [qL_sm l5, pB_in (l6.1 hL2)] at z; exact z⟩)]
    · rw [if_neg hL2]
