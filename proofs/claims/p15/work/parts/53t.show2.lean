/-! ===== show, by both ===== -/
theorem en89_0 {m0 : rHp} {i p : Int} : ∀ (d : Nat) (j : Int) (m : rHp), 0 ≤ j → j + d = m0 65 0 p → zLoop (en89 m0) (0, [i, j, p], m) = zLoop (en89 m0) (1, [i, 0, p], plM (wlB (m0 64 0) (12 * p + j) d) m) := by
  intro d
  induction d with
  | zero =>
    intro j m j0 hj
    have st : en89 m0 (0, [i, j, p], m) = .inl (1, [i, 0, p], m) := by
      unfold en89
      simp only [zLet, ↓reduceIte, List.getD_cons_zero, List.getD_cons_succ]
      rw [if_pos (show j ≥ m0 65 0 p by omega)]
    rw [zLoop_inl st]
    rfl
  | succ d ih =>
    intro j m j0 hj
    have st : en89 m0 (0, [i, j, p], m) = .inl (0, [i, j + 1, p], pbM (m0 64 0 (12 * p + j)) m) := by
      unfold en89
      simp only [zLet, ↓reduceIte, List.getD_cons_zero, List.getD_cons_succ]
      rw [if_neg (show ¬ j ≥ m0 65 0 p by omega)]
      rfl
    rw [zLoop_inl st, ih (j + 1) _ (by omega) (by omega)]
    show _ = zLoop (en89 m0) (1, [i, 0, p], plM (m0 64 0 (12 * p + j) :: wlB (m0 64 0) (12 * p + j + 1) d) m)
    rw [plM_cons, show 12 * p + (j + 1) = 12 * p + j + 1 by omega]
theorem en89_2 {m0 : rHp} {i n v k p : Int} : ∀ (d : Nat) (j : Int) (m : rHp), 0 ≤ j → j + d = m0 63 0 n → zLoop (en89 m0) (2, [i, j, n, v, k, p], m) = zLoop (en89 m0) (1, [i, k + 1, p], plM (wlB (m0 61 0) (m0 62 0 n + j) d) m) := by
  intro d
  induction d with
  | zero =>
    intro j m j0 hj
    have st : en89 m0 (2, [i, j, n, v, k, p], m) = .inl (1, [i, k + 1, p], m) := by
      unfold en89
      simp only [zLet, ↓reduceIte, List.getD_cons_zero, List.getD_cons_succ]
      rw [if_neg (show ¬ (2 : Nat) = 0 by decide), if_neg (show ¬ (2 : Nat) = 1 by decide), if_pos (show j ≥ m0 63 0 n by omega)]
    rw [zLoop_inl st]
    rfl
  | succ d ih =>
    intro j m j0 hj
    have st : en89 m0 (2, [i, j, n, v, k, p], m) = .inl (2, [i, j + 1, n, v, k, p], pbM (m0 61 0 (m0 62 0 n + j)) m) := by
      unfold en89
      simp only [zLet, ↓reduceIte, List.getD_cons_zero, List.getD_cons_succ]
      rw [if_neg (show ¬ (2 : Nat) = 0 by decide), if_neg (show ¬ (2 : Nat) = 1 by decide), if_neg (show ¬ j ≥ m0 63 0 n by omega)]
      rfl
    rw [zLoop_inl st, ih (j + 1) _ (by omega) (by omega)]
    show _ = zLoop (en89 m0) (1, [i, k + 1, p], plM (m0 61 0 (m0 62 0 n + j) :: wlB (m0 61 0) (m0 62 0 n + j + 1) d) m)
    rw [plM_cons, show m0 62 0 n + (j + 1) = m0 62 0 n + j + 1 by omega]
/-- a value as it is shown -/
noncomputable def vlL (m : rHp) (v : Int) : List Int := if v < 1099511627776 then nmL v else wlB (m 61 0) (m 62 0 (v + -1099511627776)) (m 63 0 (v + -1099511627776)).toNat
theorem wl_rg {t : Int → Int} {n w f s : Int} (h : qW pSm t n w f s) : (wlB t f s.toNat).length ≤ 12 ∧ ∀ b ∈ wlB t f s.toNat, 0 ≤ b ∧ b ≤ 127 := by
  obtain ⟨k, k1, k2, k3, k4, k5, k6⟩ := h
  refine ⟨by rw [wlB_len]; omega, ?_⟩
  refine wlB_mem (P := fun b => 0 ≤ b ∧ b ≤ 127) (fun j hj => ?_)
  cases j with
  | zero =>
    have := k3.1
    simp only [pSm, Bool.and_eq_true, decide_eq_true_eq] at this
    rw [show f + ((0 : Nat) : Int) = f by omega]
    omega
  | succ j =>
    have := k3.2 j (by omega)
    rw [show f + ((j + 1 : Nat) : Int) = f + j + 1 by omega]
    simp only [pWc, pSm, pDg, Bool.or_eq_true, Bool.and_eq_true, decide_eq_true_eq] at this
    omega
/-- NAMES and PREDICATES as show wants them -/
noncomputable def shN (c m : rHp) : Prop := sN c m ∧ ∀ p, 0 ≤ p → p < m 15 0 13 → qW pSm (m 64 0) (12 * (p + 1)) (c 16 0 p) (12 * p) (m 65 0 p) ∧ c 17 0 p = m 66 0 p
theorem vl_ok {c m : rHp} {v : Int} (hs : sN c m) (hv : vOk 1048577 v) (hn : v < 1099511627776 ∨ v + -1099511627776 < c 3 0 1) : (vlL m v).length ≤ 12 ∧ ∀ b ∈ vlL m v, 0 ≤ b ∧ b ≤ 127 := by
  unfold vlL
  by_cases b : v < 1099511627776
  · rw [if_pos b]
    have := nmL_ok (v := v) (by unfold vOk at hv; omega) (by unfold vOk at hv; omega)
    exact ⟨by omega, this.2⟩
  · rw [if_neg b]
    exact wl_rg (hs.2 _ (by unfold vOk at hv; omega) (by omega))
/-- an ARG, by the class -/
theorem en185_go {c0 c : rHp} {i k p s v : Int} {L : List Int} (h17 : c0 17 0 p = s) (hk : k < s) (h27 : c0 27 0 (k + 4 * i) = v) (hL : ∀ g : rHp, (∀ K : Nat, K = 3 ∨ K = 26 → g K = c K) → (if 1 ≤ (fn172 [v] g).2.1 then fn184 [v] g else fn183 [(fn93 [zF1 .l2i (v + (-1099511627776))] g).2.1] g) = (0, 0, plC L g)) : en185 c0 (0, [i, k, p], c) = .inl (0, [i, k + 1, p], plC ((if k = 0 then 40 else 44) :: L) c) := by
  have f172 : ∀ g : rHp, (fn172 [v] g).2.2 = g := fun g => by
    unfold fn172
    simp only [zLet, List.getD_cons_zero]
    split <;> rfl
  have f93 : ∀ (x : Int) (g : rHp), (fn93 [x] g).2.2 = g := fun x g => by
    unfold fn93
    simp only [zLet, List.getD_cons_zero]
    repeat' split
    all_goals rfl
  unfold en185
  simp only [zLet, ↓reduceIte, List.getD_cons_zero, List.getD_cons_succ, h17, h27, fn181_b, f172, f93]
  rw [if_neg (show ¬ k ≥ s by omega)]
  by_cases z : k = 0
  · rw [if_neg (show ¬ k ≠ 0 from fun w => w z), if_pos z]
    have := hL (pbC 40 c) (fun K w => pbC_gr (by omega) (by omega))
    split
    · rename_i b
      rw [if_pos b] at this
      rw [this, plC_cons]
    · rename_i b
      rw [if_neg b] at this
      rw [this, plC_cons]
  · rw [if_pos (show k ≠ 0 from z), if_neg z]
    have := hL (pbC 44 c) (fun K w => pbC_gr (by omega) (by omega))
    split
    · rename_i b
      rw [if_pos b] at this
      rw [this, plC_cons]
    · rename_i b
      rw [if_neg b] at this
      rw [this, plC_cons]
theorem val_c {c0 m0 g : rHp} {v : Int} (hs : sN c0 m0) (hv : vOk 1048577 v) (hn : v < 1099511627776 ∨ v + -1099511627776 < c0 3 0 1) (hg : ∀ K : Nat, K = 3 ∨ K = 26 → g K = c0 K) : (if 1 ≤ (fn172 [v] g).2.1 then fn184 [v] g else fn183 [(fn93 [zF1 .l2i (v + (-1099511627776))] g).2.1] g) = (0, 0, plC (vlL m0 v) g) := by
  unfold vlL
  by_cases b : v < 1099511627776
  · have e : (fn172 [v] g).2.1 = 1 := by
      unfold fn172
      simp only [zLet, List.getD_cons_zero]
      rw [if_neg (by omega)]
    rw [e, if_pos (Int.le_refl 1), if_pos b]
    exact fn184_n (by unfold vOk at hv; omega) (by unfold vOk at hv; omega)
  · have e : (fn172 [v] g).2.1 = 0 := by
      unfold fn172
      simp only [zLet, List.getD_cons_zero]
      rw [if_pos (by omega)]
    have hv2 : 0 ≤ v + -1099511627776 ∧ v + -1099511627776 ≤ 1048576 := by unfold vOk at hv; omega
    rw [e, if_neg (show ¬ (1 : Int) ≤ 0 by decide), if_neg b, l2i_s (by omega) (by omega)]
    have e93 : (fn93 [v + -1099511627776] g).2.1 = c0 26 0 (v + -1099511627776) := by
      unfold fn93
      simp only [zLet, List.getD_cons_zero]
      rw [if_neg (by omega), hg 3 (by decide), if_neg (by omega), hg 26 (by decide)]
    rw [e93]
    exact fn183_w (hs.2 _ hv2.1 (by omega))
theorem en89_go {m0 m : rHp} {i k p s v : Int} (h66 : m0 66 0 p = s) (hk : k < s) (h99 : m0 99 0 (k + 4 * i) = v) (hv : vOk 1048577 v) (hn : 1099511627776 ≤ v → 0 ≤ m0 63 0 (v + -1099511627776)) : zLoop (en89 m0) (1, [i, k, p], m) = zLoop (en89 m0) (1, [i, k + 1, p], plM ((if k = 0 then 40 else 44) :: vlL m0 v) m) := by
  have f55 : ∀ g : rHp, fn55 [v] g = (0, (if v < 1099511627776 then 1 else 0), g) := fun g => fn55_eq hv
  have key : ∀ g : rHp, (if 1 ≤ (if v < 1099511627776 then (1 : Int) else 0) then zLoop (en89 m0) (1, [i, k + 1, p], (fn88 [v] g).2.2) else zLoop (en89 m0) (2, [i, 0, v + -1099511627776, v, k, p], g)) = zLoop (en89 m0) (1, [i, k + 1, p], plM (vlL m0 v) g) := by
    intro g
    unfold vlL
    by_cases b : v < 1099511627776
    · rw [if_pos b, if_pos b, if_pos (Int.le_refl 1), fn88_n (by unfold vOk at hv; omega) (by unfold vOk at hv; omega)]
    · rw [if_neg b, if_neg b, if_neg (show ¬ (1 : Int) ≤ 0 by decide)]
      have h63 := hn (by omega)
      rw [en89_2 (m0 63 0 (v + -1099511627776)).toNat 0 g (by decide) (by omega), Int.add_zero]
  have st : en89 m0 (1, [i, k, p], m) = if 1 ≤ (if v < 1099511627776 then (1 : Int) else 0) then .inl (1, [i, k + 1, p], (fn88 [v] (pbM (if k = 0 then 40 else 44) m)).2.2) else .inl (2, [i, 0, v + -1099511627776, v, k, p], pbM (if k = 0 then 40 else 44) m) := by
    unfold en89
    simp only [zLet, ↓reduceIte, List.getD_cons_zero, List.getD_cons_succ, Nat.one_ne_zero, h66, h99, fn87_b, f55]
    rw [if_neg (show ¬ k ≥ s by omega)]
    by_cases z : k = 0
    · rw [if_neg (show ¬ k ≠ 0 from fun w => w z), if_pos z]
    · rw [if_pos (show k ≠ 0 from z), if_neg z]
  rw [plM_cons, ← key]
  split
  · rename_i b
    rw [if_pos b] at st
    rw [zLoop_inl st]
    exact (if_pos (Int.le_refl 1)).symm
  · rename_i b
    rw [if_neg b] at st
    rw [zLoop_inl st]
    exact (if_neg (show ¬ (1 : Int) ≤ 0 by decide)).symm
/-- a value that is a NAME is one that is known -/
noncomputable def nOk (c : rHp) (v : Int) : Prop := vOk 1048577 v ∧ (v < 1099511627776 ∨ v + -1099511627776 < c 3 0 1)
theorem show_args {c0 m0 : rHp} {i p s : Int} (hs : sN c0 m0) (h17 : c0 17 0 p = s) (h66 : m0 66 0 p = s) (hv : ∀ k, 0 ≤ k → k < s → c0 27 0 (k + 4 * i) = m0 99 0 (k + 4 * i) ∧ nOk c0 (m0 99 0 (k + 4 * i))) :
    ∀ (d : Nat) (k : Int) (c m : rHp), 0 ≤ k → k + d = s → oR c m → m 15 0 4 + 13 * d + 1 ≤ 200 → (∀ K : Nat, K = 3 ∨ K = 26 → c K = c0 K) → ∃ n c_q m_q, zLoop (en185 c0) (0, [i, k, p], c) = (0, n, c_q) ∧ zLoop (en89 m0) (1, [i, k, p], m) = (0, n, m_q) ∧ oR c_q m_q ∧ (∀ K : Nat, K ≠ 7 → K ≠ 39 → c_q K = c K) ∧ (∀ K : Nat, K ≠ 15 → K ≠ 60 → m_q K = m K) ∧ (∀ j, j ≠ 4 → m_q 15 0 j = m 15 0 j) := by
  intro d
  induction d with
  | zero =>
    intro k c m k0 hk ho hl hg
    obtain ⟨o2, e2⟩ := pb_two (b := 41) ho (by decide) (by decide) (by omega)
    have sc : en185 c0 (0, [i, k, p], c) = .inr (0, pbC 41 c 7 0 1, pbC 41 c) := by
      unfold en185
      simp only [zLet, ↓reduceIte, List.getD_cons_zero, List.getD_cons_succ, h17, fn181_b]
      rw [if_pos (show k ≥ s by omega)]
    have sm : en89 m0 (1, [i, k, p], m) = .inr (0, m 15 0 4 + 1, pbM 41 m) := by
      unfold en89
      simp only [zLet, ↓reduceIte, List.getD_cons_zero, List.getD_cons_succ, Nat.one_ne_zero, h66, fn87_b]
      rw [if_pos (show k ≥ s by omega)]
    refine ⟨m 15 0 4 + 1, pbC 41 c, pbM 41 m, ?_, zLoop_inr sm, o2, fun K a b => pbC_gr a b, fun K a b => pbM_gr a b, fun j a => pbM_fl a⟩
    rw [zLoop_inr sc, o2.1, e2]
  | succ d ih =>
    intro k c m k0 hk ho hl hg
    obtain ⟨v1, v2⟩ := hv k k0 (by omega)
    have hL := vl_ok hs v2.1 v2.2
    have sc := en185_go (c := c) (i := i) (k := k) (L := vlL m0 (m0 99 0 (k + 4 * i))) h17 (by omega) v1 (fun g hgk => val_c hs v2.1 v2.2 (fun K w => (hgk K w).trans (hg K w)))
    have sm := en89_go (m := m) (i := i) (k := k) (p := p) h66 (by omega) rfl v2.1 (fun w => by
      have q := hs.2 (m0 99 0 (k + 4 * i) + -1099511627776) (by omega) (v2.2.resolve_left (by omega))
      have := qW_s q
      omega)
    have hb : ∀ b ∈ ((if k = 0 then 40 else 44) :: vlL m0 (m0 99 0 (k + 4 * i))), 0 ≤ b ∧ b ≤ 127 := fun b hb => by
      rcases List.mem_cons.mp hb with rfl | hb
      · split <;> decide
      · exact hL.2 b hb
    obtain ⟨o2, e2⟩ := pl_two ho hb (by rw [List.length_cons]; omega)
    rw [List.length_cons] at e2
    obtain ⟨n, c_q, m_q, z1, z2, z3, z4, z5, z6⟩ := ih (k + 1) _ _ (by omega) (by omega) o2 (by rw [e2]; omega) (fun K w => by rw [plC_gr (by omega) (by omega)]; exact hg K w)
    refine ⟨n, c_q, m_q, by rw [zLoop_inl sc]; exact z1, by rw [sm]; exact z2, z3, fun K a b => by rw [z4 K a b, plC_gr a b], fun K a b => by rw [z5 K a b, plM_gr a b], fun j a => by rw [z6 j a, plM_fl a]⟩
/-- show, by both -/
theorem show_two {c m : rHp} {i : Int} (hf : c 0 0 7 = m 15 0 59) (hn : shN c m) (hE : c 0 0 7 ≠ 0 → c 4 0 7 = m 15 0 71 ∧ ∀ t, 0 ≤ t → t < m 15 0 71 → c 28 0 t = m 93 0 t ∧ (0 ≤ m 93 0 t ∧ m 93 0 t < m 15 0 13) ∧ m 66 0 (m 93 0 t) ≤ 4 ∧ 0 ≤ m 66 0 (m 93 0 t) ∧ ∀ k, 0 ≤ k → k < 4 → c 27 0 (k + 4 * t) = m 99 0 (k + 4 * t) ∧ nOk c (m 99 0 (k + 4 * t))) (ho : oR c m) :
    ∃ o v v_q q c_q m_q, fn185 [i] c = (o, v, c_q) ∧ fn89 [i] m = (0, v_q, m_q) ∧ m_q 15 0 0 = q ∧ oR c_q m_q ∧ (∀ K : Nat, K ≠ 7 → K ≠ 39 → c_q K = c K) ∧ ((o = 0 ∧ q = 0 ∧ v = v_q) ∨ (o = 5 ∧ q = 1) ∨ (o = 1 ∧ q = 2)) := by
  have oo : ∀ q : Int, oR c (rUp m 15 0 0 q) := fun q => by
    unfold oR
    rw [rUp_ne (by decide), rUp_grp (by decide)]
    exact ho
  unfold fn185 fn89 dn185 dn89
  simp only [zLet, List.getD_cons_zero, fn171_eq, fn79_eq, fn1_eq]
  by_cases d : c 0 0 7 = 0
  · rw [if_pos d, if_neg (show ¬ m 15 0 59 ≠ 0 from fun z => z (by rw [← hf]; exact d))]
    refine ⟨5, 0, 0, 1, c, rUp m 15 0 0 1, ?_, rfl, rUp_at, oo 1, fun _ _ _ => rfl, Or.inr (Or.inl ⟨rfl, rfl⟩)⟩
    rfl
  · obtain ⟨h4, ht⟩ := hE d
    rw [if_neg d, if_pos (show m 15 0 59 ≠ 0 by rw [← hf]; exact d), h4]
    by_cases e : 0 ≤ i ∧ i < m 15 0 71
    · rw [if_pos e, if_pos e, if_pos (Int.le_refl 1)]
      obtain ⟨t1, t2, t3, t4, t5⟩ := ht i e.1 e.2
      obtain ⟨w1, w2⟩ := hn.2 _ t2.1 t2.2
      have wr := wl_rg w1
      have ws := qW_s w1
      -- the class_q beginning
      have ec : fn183 [c 16 0 (m 93 0 i)] (rUp c 7 0 1 0) = (0, 0, plC (wlB (m 64 0) (12 * m 93 0 i) (m 65 0 (m 93 0 i)).toNat) (rUp c 7 0 1 0)) := fn183_w w1
      have c180 : (fn180 [] c).2.2 = rUp c 7 0 1 0 := rfl
      have o0 : oR (rUp c 7 0 1 0) (rUp (rUp m 15 0 0 0) 15 0 4 0) := by
        refine ⟨by rw [rUp_at, rUp_at], by rw [rUp_at]; exact Int.le_refl _, fun j j0 j1 => ?_⟩
        rw [rUp_at] at j1
        omega
      have m4 : rUp (rUp m 15 0 0 0) 15 0 4 0 15 0 4 = 0 := rUp_at
      obtain ⟨o1, e1⟩ := pl_two (L := wlB (m 64 0) (12 * m 93 0 i) (m 65 0 (m 93 0 i)).toNat) o0 wr.2 (by rw [m4]; omega)
      rw [m4] at e1
      have em := en89_0 (m0 := m) (i := i) (p := m 93 0 i) (m 65 0 (m 93 0 i)).toNat 0 (rUp (rUp m 15 0 0 0) 15 0 4 0) (by decide) (by omega)
      rw [Int.add_zero] at em
      obtain ⟨n, c_q, m_q, z1, z2, z3, z4, z5, z6⟩ := show_args (c0 := c) (m0 := m) (i := i) (p := m 93 0 i) (s := m 66 0 (m 93 0 i)) hn.1 w2 rfl (fun k k0 k1 => t5 k k0 (by omega)) (m 66 0 (m 93 0 i)).toNat 0 _ _ (by decide) (by omega) o1 (by rw [e1]; omega) (fun K w => by rw [plC_gr (by omega) (by omega), rUp_grp (by omega)])
      refine ⟨0, n, n, 0, c_q, m_q, ?_, ?_, ?_, z3, fun K a b => by rw [z4 K a b, plC_gr a b, rUp_grp a], Or.inl ⟨rfl, rfl, rfl⟩⟩
      · show zGoo (en185 c) (if (0 : Nat) = 0 then _ else _) = _
        rw [if_pos rfl, t1, c180, ec]
        exact z1
      · show zLoop (en89 m) (0, [i, 0, m 93 0 i], rUp (rUp m 15 0 0 0) 15 0 4 0) = _
        rw [em]
        exact z2
      · rw [z6 0 (by decide), plM_fl (by decide), rUp_ne (by decide), rUp_at]
    · rw [if_neg e, if_neg e, if_neg (show ¬ (1 : Int) ≤ 0 by decide)]
      refine ⟨1, 0, 0, 2, c, rUp m 15 0 0 2, ?_, rfl, rUp_at, oo 2, fun _ _ _ => rfl, Or.inr (Or.inr ⟨rfl, rfl⟩)⟩
      rfl
/-! ===== word, by both ===== -/
set_option maxRecDepth 100000 in
theorem land_f : ∀ n : Fin 128, zF2 .land (n.val : Int) 255 = (n.val : Int) := by decide +kernel
theorem land_b {b : Int} (h0 : 0 ≤ b) (h1 : b ≤ 127) : zF2 .land b 255 = b := by
  have := land_f ⟨b.toNat, by omega⟩
  rw [show ((b.toNat : Nat) : Int) = b by omega] at this
  exact this
theorem word_lp {c m : rHp} {i : Int} (i0 : 0 ≤ i) (ho : oR c m) : ∀ (d : Nat) (k a : Int) (m1 : rHp), 0 ≤ k → k + d = 8 → ∃ v, zLoop (en178 c) (0, [i, k, a], c) = (0, v, c) ∧ zLoop (en86 m) (0, [i, i + k, a], m1) = (0, v, m1) := by
  obtain ⟨o1, o2, o3⟩ := ho
  intro d
  induction d with
  | zero =>
    intro k a m1 k0 hk
    refine ⟨a, zLoop_inr ?_, zLoop_inr ?_⟩
    · unfold en178
      simp only [zLet, ↓reduceIte, List.getD_cons_zero, List.getD_cons_succ]
      rw [if_pos (show k ≥ 8 by omega)]
    · unfold en86
      simp only [zLet, ↓reduceIte, List.getD_cons_zero, List.getD_cons_succ]
      rw [if_pos (show i + k ≥ i + 8 by omega)]
  | succ d ih =>
    intro k a m1 k0 hk
    by_cases w : k + i ≥ m 15 0 4
    · have sc : en178 c (0, [i, k, a], c) = .inl (0, [i, k + 1, zF2 .lor (zF2 .lshl a 8) 0], c) := by
        unfold en178
        simp only [zLet, ↓reduceIte, List.getD_cons_zero, List.getD_cons_succ, o1]
        rw [if_neg (show ¬ k ≥ 8 by omega), if_pos w]
      have sm : en86 m (0, [i, i + k, a], m1) = .inl (0, [i, i + (k + 1), zF2 .lor (zF2 .lshl a 8) 0], m1) := by
        unfold en86
        simp only [zLet, ↓reduceIte, List.getD_cons_zero, List.getD_cons_succ]
        rw [if_neg (show ¬ i + k ≥ i + 8 by omega), if_pos (show i + k ≥ m 15 0 4 by omega), show i + k + 1 = i + (k + 1) by omega]
      obtain ⟨v, z1, z2⟩ := ih (k + 1) (zF2 .lor (zF2 .lshl a 8) 0) m1 (by omega) (by omega)
      exact ⟨v, by rw [zLoop_inl sc]; exact z1, by rw [zLoop_inl sm]; exact z2⟩
    · obtain ⟨b1, b2, b3⟩ := o3 (k + i) (by omega) (by omega)
      have sc : en178 c (0, [i, k, a], c) = .inl (0, [i, k + 1, zF2 .lor (zF2 .lshl a 8) (m 60 0 (k + i))], c) := by
        unfold en178
        simp only [zLet, ↓reduceIte, List.getD_cons_zero, List.getD_cons_succ, o1]
        rw [if_neg (show ¬ k ≥ 8 by omega), if_neg w, b1]
      have sm : en86 m (0, [i, i + k, a], m1) = .inl (0, [i, i + (k + 1), zF2 .lor (zF2 .lshl a 8) (m 60 0 (k + i))], m1) := by
        unfold en86
        simp only [zLet, ↓reduceIte, List.getD_cons_zero, List.getD_cons_succ]
        rw [if_neg (show ¬ i + k ≥ i + 8 by omega), if_neg (show ¬ i + k ≥ m 15 0 4 by omega), show i + k + 1 = i + (k + 1) by omega, show i + k = k + i by omega, land_b b2 b3]
      obtain ⟨v, z1, z2⟩ := ih (k + 1) (zF2 .lor (zF2 .lshl a 8) (m 60 0 (k + i))) m1 (by omega) (by omega)
      exact ⟨v, by rw [zLoop_inl sc]; exact z1, by rw [zLoop_inl sm]; exact z2⟩
theorem word_both {c m : rHp} {i : Int} (ho : oR c m) : ∃ o v v_q q, fn178 [i] c = (o, v, c) ∧ fn86 [i] m = (0, v_q, rUp m 15 0 0 q) ∧ ((o = 0 ∧ q = 0 ∧ v = v_q) ∨ (o = 1 ∧ q = 1)) := by
  have o1 := ho.1
  unfold fn178 fn86 dn178 dn86
  simp only [zLet, List.getD_cons_zero, fn1_eq, o1]
  by_cases a : i < 0
  · rw [if_pos a, if_pos a]
    exact ⟨1, 0, 0, 1, rfl, rfl, Or.inr ⟨rfl, rfl⟩⟩
  rw [if_neg a, if_neg a]
  by_cases b : i < m 15 0 4
  · rw [if_pos b, if_pos b]
    obtain ⟨v, z1, z2⟩ := word_lp (i := i) (by omega) ho 8 0 0 (rUp m 15 0 0 0) (by decide) (by decide)
    rw [Int.add_zero] at z2
    exact ⟨0, v, v, 0, z1, z2, Or.inl ⟨rfl, rfl, rfl⟩⟩
  · rw [if_neg b, if_neg b]
    exact ⟨1, 0, 0, 1, rfl, rfl, Or.inr ⟨rfl, rfl⟩⟩
