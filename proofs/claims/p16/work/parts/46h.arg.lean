/-! ===== an ARG of a GOAL's ATOM by both ===== -/
theorem zF2_iadd1 {a : Int} (h0 : 0 ≤ a) (h1 : a ≤ 2147483646) : zF2 .iadd a 1 = a + 1 := by
  show (Int32.ofInt a + Int32.ofInt 1).toInt = a + 1
  rw [← Int32.ofInt_add, Int32.toInt_ofInt_of_le (by omega) (by omega)]
/-- how often the VARIABLES stand -/
noncomputable def qS (m : rHp) : Prop := ∀ v, 0 ≤ v → v < m 74 0 (m 15 0 44) → 1 ≤ m 84 0 v ∧ m 84 0 v ≤ m 15 0 35
theorem qS_up {m m_q : rHp} (h : qS m) (h44 : m_q 15 0 44 = m 15 0 44) (h74 : m_q 74 = m 74) (h84 : m_q 84 = m 84) (h35 : m 15 0 35 ≤ m_q 15 0 35) : qS m_q := by
  intro v h0 h1
  rw [h44, h74] at h1
  rw [h84]
  have := h v h0 h1
  omega
theorem qS_var {m m_q : rHp} {y : List Int} (h : fn17 y m = (0, 1, m_q)) (hS : qS m) (h0 : 0 ≤ m 15 0 35) (h1 : m 15 0 35 ≤ 10239) (hat : m 15 0 35 < m_q 15 0 35) (hc : 0 ≤ m 74 0 (m 15 0 44)) : qS m_q := by
  have h12 := fn12_eq [] m
  by_cases hw : pEd pWc (m 59 0) (m 15 0 34) (m 15 0 35 + 1) - m 15 0 35 ≤ 12
  · rw [if_pos hw] at h12
    generalize hm1 : rUp (rUp (rUp m 15 0 37 (m 15 0 35)) 15 0 38 (pEd pWc (m 59 0) (m 15 0 34) (m 15 0 35 + 1) - m 15 0 35)) 15 0 35 (pEd pWc (m 59 0) (m 15 0 34) (m 15 0 35 + 1)) = m1 at h12
    have g : ∀ G : Nat, G ≠ 15 → m1 G = m G := by
      intro G hG
      rw [← hm1, rUp_grp hG, rUp_grp hG, rUp_grp hG]
    have g44 : m1 15 0 44 = m 15 0 44 := by rw [← hm1, rUp_ne (by decide), rUp_ne (by decide), rUp_ne (by decide)]
    have h17 := fn17_eq h12 y
    rw [h] at h17
    have hix : 0 ≤ pIx (fun v => !pVm m1 v) (m 74 0 (m 15 0 44)) 0 := pIx_le
    have hit : pIx (fun v => !pVm m1 v) (m 74 0 (m 15 0 44)) 0 ≤ m 74 0 (m 15 0 44) := pIx_top hc
    generalize pIx (fun v => !pVm m1 v) (m 74 0 (m 15 0 44)) 0 = r at *
    by_cases h8 : r ≠ 8
    · rw [if_pos h8] at h17
      by_cases hr : m 74 0 (m 15 0 44) ≤ r
      · rw [if_pos hr] at h17
        have em : m_q = pVa m m1 r := by
          have := congrArg (fun q => q.2.2) h17
          exact this
        intro v v0 v1
        have e44 : m_q 15 0 44 = m 15 0 44 := by
          rw [em]; unfold pVa
          rw [rUp_ne (by decide), rUp_ne (by decide), rUp_grp (by decide), rUp_grp (by decide), rUp_grp (by decide), rUp_grp (by decide), rUp_grp (by decide), g44]
        have e74 : m_q 74 0 (m 15 0 44) = m 74 0 (m 15 0 44) + 1 := by
          rw [em]; unfold pVa
          rw [rUp_grp (by decide), rUp_grp (by decide), rUp_grp (by decide), rUp_at]
        have e84 : m_q 84 0 v = if v = r then 1 else m 84 0 v := by
          rw [em]; unfold pVa
          rw [rUp_grp (by decide), rUp_grp (by decide)]
          by_cases hj : v = r
          · rw [hj, rUp_at, if_pos rfl]
          · rw [rUp_ne (fun q => hj q.2.2), rUp_grp (by decide), rUp_ne (fun q => hj q.2.2), if_neg hj, rUp_grp (by decide), rUp_grp (by decide), g 84 (by decide)]
        rw [e44, e74] at v1
        rw [e84]
        by_cases hj : v = r
        · rw [if_pos hj]; omega
        · rw [if_neg hj]
          have := hS v v0 (by omega)
          omega
      · rw [if_neg hr] at h17
        have em : m_q = pVo m m1 r := by
          have := congrArg (fun q => q.2.2) h17
          exact this
        intro v v0 v1
        have e44 : m_q 15 0 44 = m 15 0 44 := by
          rw [em]; unfold pVo
          rw [rUp_ne (by decide), rUp_ne (by decide), rUp_grp (by decide), g44]
        have e74 : m_q 74 = m 74 := by
          rw [em]; unfold pVo
          rw [rUp_grp (by decide), rUp_grp (by decide), rUp_grp (by decide), g 74 (by decide)]
        have e84 : m_q 84 0 v = if v = r then zF2 .iadd (m 84 0 r) 1 else m 84 0 v := by
          rw [em]; unfold pVo
          rw [rUp_grp (by decide), rUp_grp (by decide)]
          by_cases hj : v = r
          · rw [hj, rUp_at, if_pos rfl]
          · rw [rUp_ne (fun q => hj q.2.2), if_neg hj, g 84 (by decide)]
        rw [e44, e74] at v1
        rw [e84]
        have := hS v v0 v1
        by_cases hj : v = r
        · rw [if_pos hj, ← hj, zF2_iadd1 (by omega) (by omega)]; omega
        · rw [if_neg hj]; omega
    · rw [if_neg h8] at h17
      have := congrArg (fun q => q.2.1) h17
      exact absurd this (by simp)
  · rw [if_neg hw] at h12
    rw [fn17_no h12 y] at h
    have := congrArg (fun q => q.2.1) h
    exact absurd this (by simp)
/-- the GOAL that the class reads into -/
noncomputable def qG (c : rHp) : Int := c 9 (c 40 0 (c 1 0 10)) 2 + 9 * c 40 0 (c 1 0 10) + 1
/-- what an ARG does to what is KNOWN, to the strays: k the GOAL's kind, s and v the ARG's sort and VARIABLE -/
noncomputable def qX (k s v : Int) (c c_q : rHp) : Prop :=
  (s ≠ 1 ∧ c_q 2 0 5 = c 2 0 5 ∧ c_q 2 0 16 = c 2 0 16 ∧ c_q 25 = c 25) ∨
  (s = 1 ∧ qBt (c 2 0 5) v = 1 ∧ c_q 2 0 5 = c 2 0 5 ∧ c_q 2 0 16 = c 2 0 16 ∧ c_q 25 = c 25) ∨
  (s = 1 ∧ qBt (c 2 0 5) v ≠ 1 ∧ k = 1 ∧ c_q 2 0 5 = qSt (c 2 0 5) v ∧ c_q 2 0 16 = c 2 0 16 ∧ c_q 25 = c 25) ∨
  (s = 1 ∧ qBt (c 2 0 5) v ≠ 1 ∧ k = 2 ∧ c_q 2 0 5 = c 2 0 5 ∧ c_q 2 0 16 = c 2 0 16 + 1 ∧ c_q 25 0 = (fun i => if i = c 2 0 16 then v else c 25 0 i))
theorem put10 {g k p s v : Int} {c : rHp} (hz : c 10 g 5 < 4) (h j : Int) : (fn104 [g, k, p, s, v] c).2.2 10 h j = if h = g ∧ j = 5 then c 10 g 5 + 1 else c 10 h j := by
  rw [fn104_eq hz]
  by_cases q : h = g ∧ j = 5
  · rw [if_pos q, q.1, q.2, rUp_at]
  · rw [if_neg q, rUp_ne (fun x => q x.2), rUp_grp (by decide), rUp_grp (by decide), rUp_grp (by decide), rUp_grp (by decide)]
theorem put_oth {g k p s v : Int} {c : rHp} {G : Nat} {h : Int} (hh : h ≠ g) : (fn104 [g, k, p, s, v] c).2.2 G h = c G h := by
  unfold fn104
  simp only [zLet, List.getD_cons_zero, List.getD_cons_succ]
  split
  · rfl
  · funext j
    dsimp only
    rw [rUp_ne (fun q => hh q.2.1), rUp_ne (fun q => hh q.2.1), rUp_ne (fun q => hh q.2.1), rUp_ne (fun q => hh q.2.1), rUp_ne (fun q => hh q.2.1)]
theorem put_con {g k p s v : Int} {c : rHp} (hz : c 10 g 5 < 4) (j : Int) : (fn104 [g, k, p, s, v] c).2.2 43 g j = (if j = c 10 g 5 then k else c 43 g j) ∧ (fn104 [g, k, p, s, v] c).2.2 44 g j = (if j = c 10 g 5 then s else c 44 g j) ∧ (fn104 [g, k, p, s, v] c).2.2 46 g j = (if j = c 10 g 5 then v else c 46 g j) := by
  rw [fn104_eq hz]
  by_cases e : j = c 10 g 5
  · rw [if_pos e, if_pos e, if_pos e, e]
    refine ⟨?_, ?_, ?_⟩
    · rw [rUp_grp (by decide), rUp_grp (by decide), rUp_grp (by decide), rUp_grp (by decide), rUp_at]
    · rw [rUp_grp (by decide), rUp_grp (by decide), rUp_at]
    · rw [rUp_grp (by decide), rUp_at]
  · rw [if_neg e, if_neg e, if_neg e]
    refine ⟨?_, ?_, ?_⟩
    · rw [rUp_grp (by decide), rUp_grp (by decide), rUp_grp (by decide), rUp_grp (by decide), rUp_ne (fun z => e z.2.2)]
    · rw [rUp_grp (by decide), rUp_grp (by decide), rUp_ne (fun z => e z.2.2), rUp_grp (by decide), rUp_grp (by decide)]
    · rw [rUp_grp (by decide), rUp_ne (fun z => e z.2.2), rUp_grp (by decide), rUp_grp (by decide), rUp_grp (by decide)]
/-- what an ARG is: k the GOAL'S kind, kn what is KNOWN, G the GOAL, n the ARG'S place, s and v its sort and value by the reference -/
noncomputable def qAr (k kn G n s v : Int) (c c_q m_q : rHp) : Prop :=
  (∀ j, j ≠ n → c_q 43 G j = c 43 G j ∧ c_q 44 G j = c 44 G j ∧ c_q 46 G j = c 46 G j) ∧
  ((s = 0 ∧ c_q 43 G n = 0 ∧ vR c_q m_q (c_q 46 G n) v) ∨
   (s = 1 ∧ qBt kn v = 1 ∧ c_q 43 G n = 1 ∧ c_q 44 G n = v) ∨
   (s = 1 ∧ qBt kn v ≠ 1 ∧ k = 1 ∧ c_q 43 G n = 2 ∧ c_q 44 G n = v) ∨
   (s = 1 ∧ qBt kn v ≠ 1 ∧ k = 2 ∧ c_q 43 G n = 3) ∨
   (s = 2 ∧ c_q 43 G n = 3))
theorem memG {G : Nat} (h : G ∈ [10, 43, 44, 45, 46]) : G ≠ 2 ∧ G ≠ 24 ∧ G ≠ 25 ∧ G ∉ [22, 23] ∧ G ∉ [3, 26] ∧ G ∉ ([] : List Nat) := by
  simp only [List.mem_cons, List.not_mem_nil, or_false] at h
  rcases h with h | h | h | h | h <;> subst h <;> decide
theorem item_end {m : rHp} {any : Int} (hsk : pSk (m 59 0) (m 15 0 34) (m 15 0 35) = m 15 0 35) (hn : ¬ m 15 0 35 < m 15 0 34) : (fn20 [any] m).2.1 = 0 := by
  have f7 : fn7 [] m = (0, 0, m) := by rw [fn7_eq, hsk, rUp_self rfl]
  unfold fn20
  simp only [zLet, List.getD_cons_zero, f7, fn6_eq]
  rw [if_neg (show ¬ (0 : Int) ≤ -m 15 0 35 + m 15 0 34 + -1 by omega)]
theorem arg_two {c0 m0 c m : rHp} (hR : qR 0 c0 m0 c m) (hS : qS m) (h00 : 0 ≤ c0 1000 0 0) (hlim : 2 * c0 1000 0 0 + m0 15 0 34 ≤ 10239) (hk : c 10 (qG c) 4 = 1 ∨ c 10 (qG c) 4 = 2) (hz : c 10 (qG c) 5 < 4) (hst : c 2 0 16 < 32) :
    ∃ p, m 15 0 35 ≤ p ∧ p ≤ m 15 0 34 ∧ fn7 [] m = (0, 0, rUp m 15 0 35 p) ∧
    ((∃ c_q m_q, fn142 [] c = (0, 1, c_q) ∧ fn20 [1] (rUp m 15 0 35 p) = (0, 1, m_q) ∧ qR 1 c0 m0 c_q m_q ∧ qS m_q ∧ p < m_q 15 0 35 ∧
        fH 2 [3, 26, 22, 23, 10, 43, 44, 45, 46, 24, 25] [6, 8, 9, 10, 13, 5, 16] c c_q ∧ fH 15 [61, 62, 63, 74, 82, 83, 84] [8, 9, 35, 37, 38, 39, 40] m m_q ∧
        c_q 10 (qG c) 5 = c 10 (qG c) 5 + 1 ∧ (∀ h j, ¬ (h = qG c ∧ j = 5) → c_q 10 h j = c 10 h j) ∧ qX (c 10 (qG c) 4) (m_q 15 0 40) (m_q 15 0 39) c c_q ∧
        (m_q 15 0 40 = 1 → qVr (m_q 15 0 39) ∧ m_q 15 0 39 < m_q 74 0 (m_q 15 0 44)) ∧ (m_q 74 0 (m_q 15 0 44) = m 74 0 (m 15 0 44) ∨ m_q 15 0 40 = 1 ∧ m_q 74 0 (m_q 15 0 44) = m 74 0 (m 15 0 44) + 1 ∧ m_q 15 0 39 = m 74 0 (m 15 0 44)) ∧
        (∀ G h, G ∈ [10, 43, 44, 45, 46] → h ≠ qG c → c_q G h = c G h) ∧ qAr (c 10 (qG c) 4) (c 2 0 5) (qG c) (c 10 (qG c) 5) (m_q 15 0 40) (m_q 15 0 39) c c_q m_q) ∨
     (∃ c_q m_q, fn142 [] c = (0, 0, c_q) ∧ fn20 [1] (rUp m 15 0 35 p) = (0, 0, m_q) ∧ qZ c0 m0 c_q m_q)) := by
  obtain ⟨p, L, k1, k2, k3, k4, k5, k6, k7⟩ := look_two hR.1 hR.2.1 [] []
  have a2 := hR.2.1.2.1
  have hR1 : qR 0 c0 m0 (rUp c 2 0 6 p) (rUp m 15 0 35 p) := by
    refine qR_up hR (fH_fld fH_refl (by decide)) (fH_fld fH_refl (by decide)) ?_ ?_ ?_ ?_
    · rw [rUp_at, rUp_at]
    · rw [rUp_at]; omega
    · rw [rUp_at]; omega
    · rw [rUp_at]; exact k4
  have hS1 : qS (rUp m 15 0 35 p) := qS_up hS (rUp_ne (by decide)) (rUp_grp (by decide)) (rUp_grp (by decide)) (by rw [rUp_at]; exact k3)
  refine ⟨p, k3, k4, k2, ?_⟩
  have fc1 : fH 2 [] [6] c (rUp c 2 0 6 p) := fH_fld fH_refl (by decide)
  have fm1 : fH 15 [] [35] m (rUp m 15 0 35 p) := fH_fld fH_refl (by decide)
  have x6 : rUp c 2 0 6 p 2 0 6 = p := rUp_at
  have y35 : rUp m 15 0 35 p 15 0 35 = p := rUp_at
  have y34 : rUp m 15 0 35 p 15 0 34 = m 15 0 34 := rUp_ne (by decide)
  have y59 : rUp m 15 0 35 p 59 = m 59 := rUp_grp (by decide)
  generalize rUp c 2 0 6 p = c1 at *
  generalize rUp m 15 0 35 p = m1 at *
  have hsk : pSk (m1 59 0) (m1 15 0 34) (m1 15 0 35) = m1 15 0 35 := by rw [y59, y34, y35]; exact k7
  have hG : qG c1 = qG c := by
    unfold qG
    rw [fc1.1 9 (by decide) (by decide), fc1.1 40 (by decide) (by decide), fc1.1 1 (by decide) (by decide)]
  have h10 : c1 10 = c 10 := fc1.1 10 (by decide) (by decide)
  have hb : pB (m1 59 0) (m1 15 0 34) (m1 15 0 35) = pB (m 59 0) (m 15 0 34) p := by rw [y59, y34, y35]
  by_cases hn : p < m 15 0 34
  · have hL : 0 ≤ L := k6.2 hn
    have hbb : pB (m 59 0) (m 15 0 34) p = m 59 0 p := pB_in hn
    rw [hbb] at hb k5
    by_cases hca : pCa (m 59 0 p) = true
    · have hca_q : pCa L = true := by rw [qL_ca k5]; exact hca
      have hca1 : pCa (m1 59 0 (m1 15 0 35)) = true := by rw [y59, y35]; exact hca
      have hn1 : m1 15 0 35 < m1 15 0 34 := by rw [y35, y34]; exact hn
      rcases var_R hR1 hn1 hca1 [] [] with ⟨w, c2, v, c3, m_q, h1, h2, h3, h4, h5, h6, h7, h8, h9, h10_q, h11, h12, h13, h14, h15, h16, h17, h18⟩ | ⟨c2, m_q, h1, h2, h3⟩ | ⟨w, c2, m_q, h1, h2, h3, h4, h5, h6, h7⟩
      · have e45 : c2 2 0 5 = c 2 0 5 := (h4.2 5 (by decide)).trans (fc1.2 5 (by decide))
        have f45 : c3 2 0 5 = c 2 0 5 := (h14.2 5 (by decide)).trans (fc1.2 5 (by decide))
        have e10 : c2 10 = c 10 := (h4.1 10 (by decide) (by decide)).trans h10
        have f10 : c3 10 = c 10 := (h14.1 10 (by decide) (by decide)).trans h10
        have f16 : c3 2 0 16 = c 2 0 16 := (h14.2 16 (by decide)).trans (fc1.2 16 (by decide))
        have f25 : c3 25 = c 25 := (h14.1 25 (by decide) (by decide)).trans (fc1.1 25 (by decide) (by decide))
        have hm20 : fn20 [1] m1 = (0, 1, m_q) := item_var hsk hn1 hca1 h6 (Or.inr rfl)
        have hS_q : qS m_q := qS_var h6 hS1 (by omega) (by have e34 : m 15 0 34 = m0 15 0 34 := hR.2.2.2.2.2.2.2.1.2 34 (by decide); omega) h16 hR1.2.2.2.2.1.2.1
        have base : ∀ c_q, fH 2 lC jC c3 c_q → c_q 2 0 6 = c3 2 0 6 → qR 1 c0 m0 c_q m_q := by
          intro c_q hc_q h6_q
          refine qR_up h11 hc_q fH_refl ?_ ?_ ?_ ?_
          · rw [h6_q]; exact h11.2.1.1
          · omega
          · exact h11.2.1.2.1
          · exact h11.2.1.2.2
        have fmm : fH 15 [61, 62, 63, 74, 82, 83, 84] [8, 9, 35, 37, 38, 39, 40] m m_q := fH_trans (fH_sub fm1 (by decide) (by decide)) (fH_sub h15 (by decide) (by decide))
        have fcc : fH 2 [3, 26, 22, 23, 10, 43, 44, 45, 46, 24, 25] [6, 8, 9, 10, 13, 5, 16] c c3 := fH_trans (fH_sub fc1 (by decide) (by decide)) (fH_sub h14 (by decide) (by decide))
        have h142 : fn142 [] c = (0, (if (fn137 [qG c] c2).2.1 ≥ 1 then 1 else 0), (fn137 [qG c] c2).2.2) := by
          unfold fn142
          simp only [zLet, k1, fn106_eq, pBit_ge, h1]
          rw [if_pos hL, if_pos hca_q, if_pos (by decide)]
          show (if 1 ≤ (fn137 [qG c] c2).2.1 then (0, 1, (fn137 [qG c] c2).2.2) else (0, 0, (fn137 [qG c] c2).2.2)) = _
          split
          · rfl
          · rfl
        have h10g : ∀ c4 : rHp, c4 10 = c 10 → c4 10 (qG c) 5 < 4 := fun c4 q => by rw [q]; exact hz
        have hv : qVr v := ⟨h7, h8⟩
        have hcnt : m1 74 0 (m1 15 0 44) = m 74 0 (m 15 0 44) := by rw [fm1.1 74 (by decide) (by decide), fm1.2 44 (by decide)]
        have tail1 : m_q 15 0 40 = 1 → qVr (m_q 15 0 39) ∧ m_q 15 0 39 < m_q 74 0 (m_q 15 0 44) := fun _ => by rw [h12]; exact ⟨hv, h9⟩
        have tail2 : m_q 74 0 (m_q 15 0 44) = m 74 0 (m 15 0 44) ∨ m_q 15 0 40 = 1 ∧ m_q 74 0 (m_q 15 0 44) = m 74 0 (m 15 0 44) + 1 ∧ m_q 15 0 39 = m 74 0 (m 15 0 44) := by
          rw [hcnt] at h10_q
          exact h10_q.imp id (fun q => ⟨h13, q.1, by rw [h12]; exact q.2⟩)
        have hp35 : p < m_q 15 0 35 := by rw [← y35]; exact h16
        have hO : ∀ G h, G ∈ [10, 43, 44, 45, 46] → c3 G h = c G h := fun G h q => by rw [h14.1 G (memG q).2.2.2.1 (memG q).1, fc1.1 G (memG q).2.2.2.2.2 (memG q).1]
        have h137 : fn137 [qG c] c2 = (if qBt (c 2 0 5) v = 1 then (0, 1, (fn104 [qG c, 1, p, v, 0] c3).2.2) else if c 10 (qG c) 4 ≠ 1 then (0, 1, (fn121 [v] (fn104 [qG c, 3, p, v, 0] c3).2.2).2.2) else (0, 1, rUp (fn104 [qG c, 2, p, v, 0] c3).2.2 2 0 5 (qSt (c 2 0 5) v))) := by
          unfold fn137
          simp only [zLet, List.getD_cons_zero, h2, h3, h5, e45, e10, fn117_eq, f45, one_bit, y35]
          rw [if_pos (show v ≥ 0 from h7), if_neg (show ¬ c 10 (qG c) 4 = 0 by omega)]
          rfl
        by_cases hbit : qBt (c 2 0 5) v = 1
        · rw [if_pos hbit] at h137
          rw [h137] at h142
          have h142_q : fn142 [] c = (0, 1, (fn104 [qG c, 1, p, v, 0] c3).2.2) := h142.trans (by rw [if_pos (show (1 : Int) ≥ 1 by decide)])
          refine Or.inl ⟨_, m_q, h142_q, hm20, base _ (fH_sub fn104_fr (by decide) (by decide)) (fn104_fr.2 6 (by decide)), hS_q, hp35, fH_trans fcc (fH_sub fn104_fr (by decide) (by decide)), fmm, ?_, ?_, ?_, tail1, tail2, ?_⟩
          · rw [put10 (h10g c3 f10), if_pos ⟨rfl, rfl⟩, f10]
          · intro h j q
            rw [put10 (h10g c3 f10), if_neg q, f10]
          · rw [h12, h13]
            exact Or.inr (Or.inl ⟨rfl, hbit, (fn104_fr.2 5 (by decide)).trans f45, (fn104_fr.2 16 (by decide)).trans f16, (fn104_fr.1 25 (by decide) (by decide)).trans f25⟩)
          · refine ⟨fun G h q q2 => by rw [put_oth q2, hO G h q], fun j hj => ?_, Or.inr (Or.inl ⟨h13, by rw [h12]; exact hbit, ?_, ?_⟩)⟩
            · obtain ⟨u1, u2, u3⟩ := put_con (k := 1) (p := p) (s := v) (v := 0) (h10g c3 f10) j
              rw [u1, u2, u3, f10, if_neg hj, if_neg hj, if_neg hj, hO 43 _ (by decide), hO 44 _ (by decide), hO 46 _ (by decide)]
              exact ⟨rfl, rfl, rfl⟩
            · rw [(put_con (h10g c3 f10) _).1, f10, if_pos rfl]
            · rw [(put_con (h10g c3 f10) _).2.1, f10, if_pos rfl, h12]
        · rw [if_neg hbit] at h137
          by_cases hk1 : c 10 (qG c) 4 = 1
          · rw [if_neg (fun q => q hk1)] at h137
            rw [h137] at h142
            have h142_q : fn142 [] c = (0, 1, rUp (fn104 [qG c, 2, p, v, 0] c3).2.2 2 0 5 (qSt (c 2 0 5) v)) := h142.trans (by rw [if_pos (show (1 : Int) ≥ 1 by decide)])
            refine Or.inl ⟨_, m_q, h142_q, hm20, base _ (fH_fld (fH_sub fn104_fr (by decide) (by decide)) (by decide)) ?_, hS_q, hp35, fH_fld (fH_trans fcc (fH_sub fn104_fr (by decide) (by decide))) (by decide), fmm, ?_, ?_, ?_, tail1, tail2, ?_⟩
            · rw [rUp_ne (by decide)]; exact fn104_fr.2 6 (by decide)
            · rw [rUp_grp (by decide), put10 (h10g c3 f10), if_pos ⟨rfl, rfl⟩, f10]
            · intro h j q
              rw [rUp_grp (by decide), put10 (h10g c3 f10), if_neg q, f10]
            · rw [h12, h13]
              refine Or.inr (Or.inr (Or.inl ⟨rfl, hbit, hk1, rUp_at, ?_, ?_⟩))
              · rw [rUp_ne (by decide)]; exact (fn104_fr.2 16 (by decide)).trans f16
              · rw [rUp_grp (by decide)]; exact (fn104_fr.1 25 (by decide) (by decide)).trans f25
            · refine ⟨fun G h q q2 => by rw [rUp_grp (memG q).1, put_oth q2, hO G h q], fun j hj => ?_, Or.inr (Or.inr (Or.inl ⟨h13, by rw [h12]; exact hbit, hk1, ?_, ?_⟩))⟩
              · obtain ⟨u1, u2, u3⟩ := put_con (k := 2) (p := p) (s := v) (v := 0) (h10g c3 f10) j
                rw [rUp_grp (by decide), rUp_grp (by decide), rUp_grp (by decide), u1, u2, u3, f10, if_neg hj, if_neg hj, if_neg hj, hO 43 _ (by decide), hO 44 _ (by decide), hO 46 _ (by decide)]
                exact ⟨rfl, rfl, rfl⟩
              · rw [rUp_grp (by decide), (put_con (h10g c3 f10) _).1, f10, if_pos rfl]
              · rw [rUp_grp (by decide), (put_con (h10g c3 f10) _).2.1, f10, if_pos rfl, h12]
          · rw [if_pos hk1] at h137
            rw [h137] at h142
            have i16 : (fn104 [qG c, 3, p, v, 0] c3).2.2 2 0 16 = c 2 0 16 := (fn104_fr.2 16 (by decide)).trans f16
            have i25 : (fn104 [qG c, 3, p, v, 0] c3).2.2 25 = c 25 := (fn104_fr.1 25 (by decide) (by decide)).trans f25
            have i5 : (fn104 [qG c, 3, p, v, 0] c3).2.2 2 0 5 = c 2 0 5 := (fn104_fr.2 5 (by decide)).trans f45
            have i6 : (fn104 [qG c, 3, p, v, 0] c3).2.2 2 0 6 = c3 2 0 6 := fn104_fr.2 6 (by decide)
            have i10 : ∀ h j, (fn104 [qG c, 3, p, v, 0] c3).2.2 10 h j = if h = qG c ∧ j = 5 then c 10 (qG c) 5 + 1 else c 10 h j := by
              intro h j
              rw [put10 (h10g c3 f10), f10]
            have iO : ∀ G h, G ∈ [10, 43, 44, 45, 46] → h ≠ qG c → (fn104 [qG c, 3, p, v, 0] c3).2.2 G h = c G h := fun G h q q2 => by rw [put_oth q2, hO G h q]
            have ifr : fH 2 [10, 43, 44, 45, 46] [] c3 (fn104 [qG c, 3, p, v, 0] c3).2.2 := fn104_fr
            have iC : ∀ j, (fn104 [qG c, 3, p, v, 0] c3).2.2 43 (qG c) j = (if j = c 10 (qG c) 5 then 3 else c 43 (qG c) j) ∧ (j ≠ c 10 (qG c) 5 → (fn104 [qG c, 3, p, v, 0] c3).2.2 44 (qG c) j = c 44 (qG c) j ∧ (fn104 [qG c, 3, p, v, 0] c3).2.2 46 (qG c) j = c 46 (qG c) j) := fun j => by
              obtain ⟨u1, u2, u3⟩ := put_con (k := 3) (p := p) (s := v) (v := 0) (h10g c3 f10) j
              rw [u1, u2, u3, f10, hO 43 _ (by decide), hO 44 _ (by decide), hO 46 _ (by decide)]
              exact ⟨rfl, fun hj => by rw [if_neg hj, if_neg hj]; exact ⟨rfl, rfl⟩⟩
            generalize (fn104 [qG c, 3, p, v, 0] c3).2.2 = c4 at *
            have h121 : (fn121 [v] c4).2.2 = rUp (rUp (rUp c4 24 0 (c 2 0 16) (c4 2 0 9)) 25 0 (c 2 0 16) v) 2 0 16 (c 2 0 16 + 1) := by
              unfold fn121
              simp only [zLet, List.getD_cons_zero, i16]
              rw [if_neg (by omega)]
            rw [h121] at h142
            have h142_q : fn142 [] c = (0, 1, rUp (rUp (rUp c4 24 0 (c 2 0 16) (c4 2 0 9)) 25 0 (c 2 0 16) v) 2 0 16 (c 2 0 16 + 1)) := h142.trans (by rw [if_pos (show (1 : Int) ≥ 1 by decide)])
            refine Or.inl ⟨_, m_q, h142_q, hm20, base _ (fH_fld (fH_grp (fH_grp (fH_sub ifr (by decide) (by decide)) (by decide) (by decide)) (by decide) (by decide)) (by decide)) ?_, hS_q, hp35, fH_fld (fH_grp (fH_grp (fH_trans fcc (fH_sub ifr (by decide) (by decide))) (by decide) (by decide)) (by decide) (by decide)) (by decide), fmm, ?_, ?_, ?_, tail1, tail2, ?_⟩
            · rw [rUp_ne (by decide), rUp_grp (by decide), rUp_grp (by decide)]; exact i6
            · rw [rUp_grp (by decide), rUp_grp (by decide), rUp_grp (by decide), i10, if_pos ⟨rfl, rfl⟩]
            · intro h j q
              rw [rUp_grp (by decide), rUp_grp (by decide), rUp_grp (by decide), i10, if_neg q]
            · rw [h12, h13]
              refine Or.inr (Or.inr (Or.inr ⟨rfl, hbit, hk.resolve_left hk1, ?_, rUp_at, ?_⟩))
              · rw [rUp_ne (by decide), rUp_grp (by decide), rUp_grp (by decide)]; exact i5
              · funext i
                rw [rUp_grp (by decide)]
                by_cases hi : i = c 2 0 16
                · rw [hi, rUp_at, if_pos rfl]
                · rw [rUp_ne (fun q => hi q.2.2), if_neg hi, rUp_grp (by decide), i25]
            · refine ⟨fun G h q q2 => by rw [rUp_grp (memG q).1, rUp_grp (memG q).2.2.1, rUp_grp (memG q).2.1, iO G h q q2], fun j hj => ?_, Or.inr (Or.inr (Or.inr (Or.inl ⟨h13, by rw [h12]; exact hbit, hk.resolve_left hk1, ?_⟩)))⟩
              · obtain ⟨u1, u2⟩ := iC j
                rw [rUp_grp (by decide), rUp_grp (by decide), rUp_grp (by decide), rUp_grp (by decide), rUp_grp (by decide), rUp_grp (by decide), rUp_grp (by decide), rUp_grp (by decide), rUp_grp (by decide), u1, if_neg hj]
                exact ⟨rfl, u2 hj⟩
              · rw [rUp_grp (by decide), rUp_grp (by decide), rUp_grp (by decide), (iC _).1, if_pos rfl]
      · refine Or.inr ⟨c2, m_q, ?_, item_var hsk hn1 hca1 h2 (Or.inl rfl), h3⟩
        unfold fn142
        simp only [zLet, k1, fn106_eq, pBit_ge, h1]
        rw [if_pos hL, if_pos hca_q, if_neg (by decide)]
      · refine Or.inr ⟨rUp c2 2 0 4 p, m_q, ?_, item_var hsk hn1 hca1 h6 (Or.inl rfl), qZ_more h7 (fH_fld fH_refl (by decide)) fH_refl⟩
        have h137 : fn137 [qG c] c2 = (0, 0, rUp c2 2 0 4 p) := by
          unfold fn137
          simp only [zLet, List.getD_cons_zero, h2, h3, h5, fn109_eq, y35]
          rw [if_neg (by decide)]
        unfold fn142
        simp only [zLet, k1, fn106_eq, pBit_ge, h1]
        rw [if_pos hL, if_pos hca_q, if_pos (by decide)]
        show (if 1 ≤ (fn137 [qG c] c2).2.1 then (0, 1, (fn137 [qG c] c2).2.2) else (0, 0, (fn137 [qG c] c2).2.2)) = _
        rw [h137]
        exact if_neg (show ¬ (1 : Int) ≤ 0 by decide)
    · have hca_q : ¬ pCa L = true := by rw [qL_ca k5]; exact hca
      have hcaf : pCa (pB (m1 59 0) (m1 15 0 34) (m1 15 0 35)) = false := by rw [hb]; simpa using hca
      have h95 : (L = 95) = (m 59 0 p = 95) := qL_is k5 (by decide) (by decide)
      have hcnt : m1 74 0 (m1 15 0 44) = m 74 0 (m 15 0 44) := by rw [fm1.1 74 (by decide) (by decide), fm1.2 44 (by decide)]
      by_cases hu : m 59 0 p = 95
      · have hn1 : m1 15 0 35 < m1 15 0 34 := by rw [y35, y34]; exact hn
        have hm20 := item_any hsk hn1 (by rw [y59, y35]; exact hu)
        have hz1 : c1 10 (qG c) 5 < 4 := by rw [h10]; exact hz
        have h142 : fn142 [] c = (0, 1, rUp (fn104 [qG c, 3, p, 0, 0] c1).2.2 2 0 6 (p + 1)) := by
          unfold fn142
          simp only [zLet, k1, fn106_eq, pBit_ge, x6]
          rw [if_pos hL, if_neg hca_q, if_pos (show L ≠ 35 by rw [← h95] at hu; omega), if_neg (show ¬ L ≠ 95 from fun q => q (by rw [h95]; exact hu))]
          rfl
        rw [y35] at hm20
        have w35 : rUp (rUp (rUp m1 15 0 35 (p + 1)) 15 0 40 2) 15 0 39 0 15 0 35 = p + 1 := by rw [rUp_ne (by decide), rUp_ne (by decide), rUp_at]
        refine Or.inl ⟨_, _, h142, hm20, ?_, ?_, ?_, ?_, ?_, ?_, ?_, ?_, ?_, ?_, ?_⟩
        · refine qR_up hR1 (fH_fld (fH_sub fn104_fr (by decide) (by decide)) (by decide)) (fH_fld (fH_fld (fH_fld fH_refl (by decide)) (by decide)) (by decide)) ?_ ?_ ?_ ?_
          · rw [rUp_at, w35]
          · rw [w35, y35]; omega
          · rw [w35]; omega
          · rw [w35, y34]; omega
        · exact qS_up hS1 (by rw [rUp_ne (by decide), rUp_ne (by decide), rUp_ne (by decide)]) (by rw [rUp_grp (by decide), rUp_grp (by decide), rUp_grp (by decide)]) (by rw [rUp_grp (by decide), rUp_grp (by decide), rUp_grp (by decide)]) (by rw [w35, y35]; omega)
        · rw [w35]; omega
        · exact fH_fld (fH_trans (fH_sub fc1 (by decide) (by decide)) (fH_sub fn104_fr (by decide) (by decide))) (by decide)
        · exact fH_fld (fH_fld (fH_fld (fH_sub fm1 (by decide) (by decide)) (by decide)) (by decide)) (by decide)
        · rw [rUp_grp (by decide), put10 hz1, if_pos ⟨rfl, rfl⟩, h10]
        · intro h j q
          rw [rUp_grp (by decide), put10 hz1, if_neg q, h10]
        · refine Or.inl ⟨?_, ?_, ?_, ?_⟩
          · rw [rUp_ne (by decide), rUp_at]; decide
          · rw [rUp_ne (by decide)]; exact (fn104_fr.2 5 (by decide)).trans (fc1.2 5 (by decide))
          · rw [rUp_ne (by decide)]; exact (fn104_fr.2 16 (by decide)).trans (fc1.2 16 (by decide))
          · rw [rUp_grp (by decide)]; exact (fn104_fr.1 25 (by decide) (by decide)).trans (fc1.1 25 (by decide) (by decide))
        · intro q
          rw [rUp_ne (by decide), rUp_at] at q
          exact absurd q (by decide)
        · refine Or.inl ?_
          rw [rUp_grp (by decide), rUp_grp (by decide), rUp_grp (by decide), rUp_ne (by decide), rUp_ne (by decide), rUp_ne (by decide)]
          exact hcnt
        · refine ⟨fun G h q q2 => by rw [rUp_grp (memG q).1, put_oth q2, fc1.1 G (memG q).2.2.2.2.2 (memG q).1], fun j hj => ?_, Or.inr (Or.inr (Or.inr (Or.inr ⟨?_, ?_⟩)))⟩
          · obtain ⟨u1, u2, u3⟩ := put_con (k := 3) (p := p) (s := 0) (v := 0) hz1 j
            rw [rUp_grp (by decide), rUp_grp (by decide), rUp_grp (by decide), u1, u2, u3, h10, if_neg hj, if_neg hj, if_neg hj, fc1.1 43 (by decide) (by decide), fc1.1 44 (by decide) (by decide), fc1.1 46 (by decide) (by decide)]
            exact ⟨rfl, rfl, rfl⟩
          · rw [rUp_ne (by decide), rUp_at]
          · rw [rUp_grp (by decide), (put_con hz1 _).1, h10, if_pos rfl]
      · have h142 : fn142 [] c = (0, (if 1 ≤ (fn136 [qG c] c1).2.1 then 1 else 0), (fn136 [qG c] c1).2.2) := by
          have hX : ∀ (X : zR), (if L ≠ 35 then (if L ≠ 95 then X else (0, 1, rUp (fn104 [qG c, 3, p, 0, 0] c1).2.2 2 0 6 (p + 1))) else X) = X := by
            intro X
            rw [if_pos (show L ≠ 95 from fun q => hu (by rw [← h95]; exact q))]
            split <;> rfl
          unfold fn142
          simp only [zLet, k1, fn106_eq, pBit_ge, x6]
          rw [if_pos hL, if_neg hca_q]
          refine (hX (if 1 ≤ (fn136 [qG c] c1).2.1 then (0, 1, (fn136 [qG c] c1).2.2) else (0, 0, (fn136 [qG c] c1).2.2))).trans ?_
          split
          · rfl
          · rfl
        rcases const_two (any := 1) (g := qG c) hR1 hlim hsk hcaf (Or.inr (by rw [hb]; exact hu)) with ⟨c3, m_q, v, h1, h2, h3, h4, h5, h6, h7, h8, -, -⟩ | ⟨c_q, m_q, h1, h2, h3⟩
        · rw [h1] at h142
          have h142_q : fn142 [] c = (0, 1, (fn104 [qG c, 0, m1 15 0 35, 0, v] c3).2.2) := h142.trans (by rw [if_pos (show (1 : Int) ≤ 1 by decide)])
          have f10 : c3 10 = c 10 := (h4.1 10 (by decide) (by decide)).trans h10
          have hz3 : c3 10 (qG c) 5 < 4 := by rw [f10]; exact hz
          refine Or.inl ⟨_, m_q, h142_q, h2, ?_, ?_, ?_, ?_, ?_, ?_, ?_, ?_, ?_, ?_, ?_⟩
          · refine qR_up h3 (fH_sub fn104_fr (by decide) (by decide)) fH_refl ?_ ?_ ?_ ?_
            · rw [fn104_fr.2 6 (by decide)]; exact h3.2.1.1
            · omega
            · exact h3.2.1.2.1
            · exact h3.2.1.2.2
          · exact qS_up hS1 (h5.2 44 (by decide)) (h5.1 74 (by decide) (by decide)) (h5.1 84 (by decide) (by decide)) (by omega)
          · omega
          · exact fH_trans (fH_trans (fH_sub fc1 (by decide) (by decide)) (fH_sub h4 (by decide) (by decide))) (fH_sub fn104_fr (by decide) (by decide))
          · exact fH_trans (fH_sub fm1 (by decide) (by decide)) (fH_sub h5 (by decide) (by decide))
          · rw [put10 hz3, if_pos ⟨rfl, rfl⟩, f10]
          · intro h j q
            rw [put10 hz3, if_neg q, f10]
          · refine Or.inl ⟨by rw [h7]; decide, (fn104_fr.2 5 (by decide)).trans ((h4.2 5 (by decide)).trans (fc1.2 5 (by decide))), (fn104_fr.2 16 (by decide)).trans ((h4.2 16 (by decide)).trans (fc1.2 16 (by decide))), (fn104_fr.1 25 (by decide) (by decide)).trans ((h4.1 25 (by decide) (by decide)).trans (fc1.1 25 (by decide) (by decide)))⟩
          · intro q
            rw [h7] at q
            exact absurd q (by decide)
          · refine Or.inl ?_
            rw [h5.1 74 (by decide) (by decide), h5.2 44 (by decide)]
            exact hcnt
          · refine ⟨fun G h q q2 => by rw [put_oth q2, h4.1 G (memG q).2.2.2.2.1 (memG q).1, fc1.1 G (memG q).2.2.2.2.2 (memG q).1], fun j hj => ?_, Or.inl ⟨h7, ?_, ?_⟩⟩
            · obtain ⟨u1, u2, u3⟩ := put_con (k := 0) (p := m1 15 0 35) (s := 0) (v := v) hz3 j
              rw [u1, u2, u3, f10, if_neg hj, if_neg hj, if_neg hj, h4.1 43 (by decide) (by decide), h4.1 44 (by decide) (by decide), h4.1 46 (by decide) (by decide), fc1.1 43 (by decide) (by decide), fc1.1 44 (by decide) (by decide), fc1.1 46 (by decide) (by decide)]
              exact ⟨rfl, rfl, rfl⟩
            · rw [(put_con hz3 _).1, f10, if_pos rfl]
            · rw [(put_con hz3 _).2.2, f10, if_pos rfl]
              exact vR_up h6 (fn104_fr.1 3 (by decide) (by decide)) (fn104_fr.1 26 (by decide) (by decide)) rfl rfl rfl rfl rfl
        · rw [h1] at h142
          exact Or.inr ⟨c_q, m_q, h142.trans (by rw [if_neg (show ¬ (1 : Int) ≤ 0 by decide)]), h2, h3⟩
  · have hL : ¬ 0 ≤ L := fun q => hn (k6.1 q)
    have hn1 : ¬ m1 15 0 35 < m1 15 0 34 := by rw [y35, y34]; exact hn
    have hbo : pB (m1 59 0) (m1 15 0 34) (m1 15 0 35) = -1 := pB_out (by omega)
    have h142 : fn142 [] c = (0, 0, (fn136 [qG c] c1).2.2) := by
      unfold fn142
      simp only [zLet, k1, fn106_eq]
      rw [if_neg hL]
      rfl
    rcases const_two (any := 1) (g := qG c) hR1 hlim hsk (by rw [hbo]; decide) (Or.inr (by rw [hbo]; decide)) with ⟨c3, m_q, v, h1, h2, h3⟩ | ⟨c_q, m_q, h1, h2, h3⟩
    · have := item_end (any := 1) hsk hn1
      rw [h2] at this
      exact absurd this (show ¬ (1 : Int) = 0 by decide)
    · rw [h1] at h142
      exact Or.inr ⟨c_q, m_q, h142, h2, h3⟩
