/-! ===== what find wants, through calls ===== -/
theorem zTl_fr {c m m_q : rHp} (h : zTl m) (hT : tT c m) (hm : eqS m m_q) (h66 : ∀ p, 0 ≤ p → p < m 15 0 13 → m_q 66 0 p = m 66 0 p) : zTl m_q := by
  intro t t0 t1 k k0 k1 k2
  rw [hm.2.1] at t1
  have pr := hT.2.2.1.2.1 t t0 t1
  rw [hm.1 93 (by decide), h66 _ pr.1 pr.2] at k2
  rw [hm.1 99 (by decide)]
  exact h t t0 t1 k k0 k1 k2
theorem sz_of {B D : Int} {c m c_q m_q : rHp} (h : JJ B c m) (hz : JJ D c_q m_q) (h13 : m_q 15 0 13 = m 15 0 13) (f : fT3 (c 1 0 7) c c_q) : ∀ p, 0 ≤ p → p < m 15 0 13 → m_q 66 0 p = m 66 0 p := fun p p0 p1 => by
  have a := JJ_17 h p p0 p1
  have b := JJ_17 hz p p0 (by rw [h13]; exact p1)
  have e := (f (mk40 hz.2.1)).2 (Int.le_refl _) p (by rw [JJ_7 h]; exact p1)
  rw [← b, e, a]
theorem tell_sz {N v : Int} {o : Nat} {x : List Int} {c c_q : rHp} (l1 : sn166 x c o v c_q) : fT3 N c c_q := by
  have l1 : (o, v, c_q) = fn166 [] c := l1
  have e1 : c_q = (fn166 [] c).2.2 := congrArg (fun r : zR => r.2.2) l1
  rw [e1]
  exact fn166_sz
theorem untell_sz {N v : Int} {o : Nat} {x : List Int} {c c_q : rHp} (l1 : sn167 x c o v c_q) : fT3 N c c_q := by
  have l1 : (o, v, c_q) = fn167 [] c := l1
  have e1 : c_q = (fn167 [] c).2.2 := congrArg (fun r : zR => r.2.2) l1
  rw [e1]
  exact fT3_S fn167_sz
theorem find_sz {N : Int} {c c_q : rHp} (l1 : eqC (hF1 c) c_q) : fT3 N c c_q := by
  have t := fT3_S (hF1_sz (N := N) (c := c))
  unfold fT3 at t ⊢
  rw [l1.2 40 (by decide), l1.2 17 (by decide)]
  exact t
theorem ask_sz {B N v : Int} {o : Nat} {x : List Int} {c m c_q : rHp} (h : JK B c m) (hB : B ≤ 10239) (l1 : sn275 x c o v c_q) (k40 : c_q 40 = c 40) : fT3 N c c_q ∧ (c_q 0 0 7 ≠ 0 → c 0 0 7 ≠ 0) := by
  have e5 := ask_275 l1
  obtain ⟨k1_q, k2_q⟩ := ask_cls (c := c) rfl (by rw [← e5 40 (by decide), k40]; exact mk40 h.1.2.1)
  have k1 : ∀ K : Nat, K = 17 ∨ K = 40 → c_q K = hA1 c K := fun K q => by
    rw [e5 K (by omega)]
    refine k1_q K (fun w => ?_)
    simp only [List.mem_cons, List.not_mem_nil, or_false] at w
    omega
  refine ⟨?_, fun w => ?_⟩
  · have t := fT3_S (hA1_sz (N := N) (c := c))
    unfold fT3 at t ⊢
    rw [k1 40 (by decide), k1 17 (by decide)]
    exact t
  · have k2 : c_q 0 0 7 = hA1 c 0 0 7 := by rw [e5 0 (by decide)]; exact k2_q
    rw [k2] at w
    exact (yFA_flag ((ask_two h.1.1 hB).2 h.1.2.2).2 w).1
theorem run_zTl {B v v_q : Int} {o o_q : Nat} {x y : List Int} {c m c_q m_q : rHp} (h : JJ B c m) (hB : B ≤ 10239) (h66 : ∀ p, m 66 0 p ≤ 4) (l1 : sn270 x c o v c_q) (l2 : sn78 y m o_q v_q m_q) (w0 : c_q 0 0 7 ≠ 0) : zTl m_q := by
  have l1 : (o, v, c_q) = fn270 [] c := l1
  have l2 : (o_q, v_q, m_q) = fn78 [] m := l2
  have hS := yS_of h.1 hB h.2.1 (fun p _ _ => h66 p)
  obtain ⟨o1, w, w_q, c1, m1, p1, p2, hr⟩ := run_two hS
  have e1 : c_q = (fn270 [] c).2.2 := congrArg (fun r : zR => r.2.2) l1
  have k : ∀ K : Nat, K ≠ 112 → c_q K = c1 K := fun K q => by
    rw [e1]
    unfold fn270
    simp only [zLet, p1]
    split
    · exact rUp_grp q
    · split
      · rfl
      · split <;> rfl
  rw [p2] at l2
  have em : m_q = m1 := congrArg (fun r : zR => r.2.2) l2
  have z := run_z (x := []) (g0 := c)
  rw [p1] at z
  have z : o1 ≠ 0 → fZ0 c c1 := z
  have no : ¬ o1 ≠ 0 := fun q => w0 (by rw [k 0 (by decide)]; exact (z q).1)
  rw [em]
  rcases hr with ⟨a1, a2, a3, a4, a5, a6, a7, _⟩ | ⟨a1, a2, a3, a4⟩ | ⟨a1, a2, a3, a4⟩ | ⟨a1, a2, a3, a4⟩
  · intro t t0 t1 k k0 k1 k2
    exact (a7.2.1.2 t t0 t1).2 k k0 k1 k2
  · exact absurd (show o1 ≠ 0 by omega) no
  · exact absurd (show o1 ≠ 0 by omega) no
  · exact absurd (show o1 ≠ 0 by omega) no
/-- between calls -/
noncomputable def JF (B : Int) (c m : rHp) : Prop := JK B c m ∧ (c 0 0 7 ≠ 0 → zTl m)
noncomputable def lJF (i : Int) (g : rHp) : Prop := ∃ B : Int, 6 * B ≤ 20 * i ∧ JF B g g
theorem find_cmp {B v v_q : Int} {o o_q : Nat} {x y : List Int} {c m c_q m_q : rHp} (h : JF B c m) (hB : B ≤ 10239) (l1 : sn274 x c o v c_q) (l2 : sn90 y m o_q v_q m_q) (rg : 0 ≤ m_q 15 0 36 ∧ m_q 15 0 36 ≤ 2000) : v = m_q 15 0 0 ∧ (v = 0 → c_q 112 0 0 = v_q) := by
  have l1 : (o, v, c_q) = fn274 [] c := l1
  have l2 : (o_q, v_q, m_q) = fn90 [] m := l2
  obtain ⟨o1, w1, w2, c1, m1, p1, p2, hr⟩ := find_both h.1 hB h.2
  rw [p2] at l2
  have em : m_q = m1 := congrArg (fun r : zR => r.2.2) l2
  have ev : v_q = w2 := congrArg (fun r : zR => r.2.1) l2
  rw [← em] at hr
  unfold fn274 at l1
  simp only [zLet, p1] at l1
  rcases hr rg with ⟨a1, a2, a3⟩ | ⟨a1, a2⟩
  · rw [if_pos a1] at l1
    have e1 : v = 0 := congrArg (fun r : zR => r.2.1) l1
    have e2 : c_q = rUp c1 112 0 0 w1 := congrArg (fun r : zR => r.2.2) l1
    exact ⟨by rw [e1, a2], fun _ => by rw [e2, rUp_at, ev]; exact a3⟩
  · rw [if_neg (by omega)] at l1
    have e1 : v = 1 := congrArg (fun r : zR => r.2.1) l1
    exact ⟨by rw [e1, a2], fun q => by omega⟩
noncomputable def sb90 : zSpc := fun x g o v gz => sn90 x g o v gz ∧ sr90 x g o v gz
noncomputable def sb221 : zSpc := fun x g o v gz => sn221 x g o v gz ∧ sr221 x g o v gz
noncomputable def sb274 : zSpc := fun x g o v gz => sn274 x g o v gz ∧ sr274 x g o v gz
theorem rg1536 {g : rHp} (h : rRg uW g) : 0 ≤ g 15 0 36 ∧ g 15 0 36 ≤ 2000 := by
  have a := h 15 (gW 15) rfl 0 36
  have e1 : (rTy (gW 15) (36 : Int).toNat).2.1 = 0 := by decide +kernel
  have e2 : (rTy (gW 15) (36 : Int).toNat).2.2.1 = 2000 := by decide +kernel
  rw [e1, e2] at a
  exact a
