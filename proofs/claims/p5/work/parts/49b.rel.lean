/-! ===== what the law's rows rest on ===== -/
/-- between calls: what holds of both, behind i numbers of the script -/
def lJ (i : Int) (g : rHp) : Prop := ∃ B : Int, 6 * B ≤ 20 * i ∧ Rel B g g
theorem Rel_eq {B : Int} {c m c' m' : rHp} (h : Rel B c m) (hc : eqC c c') (hm : eqM m m') : Rel B c' m' := by
  obtain ⟨a1, a2, a3, a4, a5, a6⟩ := hc
  obtain ⟨⟨b3, b8, b9, b13, b17⟩, b32, bG⟩ := hm
  have p14 : ∀ m : rHp, rUp m 15 0 14 (m 15 0 13) 15 0 14 = m 15 0 13 := fun m => rUp_at
  have p8 : ∀ m : rHp, rUp m 15 0 14 (m 15 0 13) 15 0 8 = m 15 0 8 := fun m => rUp_ne (by decide)
  have p9 : ∀ m : rHp, rUp m 15 0 14 (m 15 0 13) 15 0 9 = m 15 0 9 := fun m => rUp_ne (by decide)
  have g61 : ∀ m : rHp, rUp m 15 0 14 (m 15 0 13) 61 = m 61 := fun m => rUp_grp (by decide)
  have g62 : ∀ m : rHp, rUp m 15 0 14 (m 15 0 13) 62 = m 62 := fun m => rUp_grp (by decide)
  have g63 : ∀ m : rHp, rUp m 15 0 14 (m 15 0 13) 63 = m 63 := fun m => rUp_grp (by decide)
  have g64 : ∀ m : rHp, rUp m 15 0 14 (m 15 0 13) 64 = m 64 := fun m => rUp_grp (by decide)
  have g65 : ∀ m : rHp, rUp m 15 0 14 (m 15 0 13) 65 = m 65 := fun m => rUp_grp (by decide)
  have g66 : ∀ m : rHp, rUp m 15 0 14 (m 15 0 13) 66 = m 66 := fun m => rUp_grp (by decide)
  have g67 : ∀ m : rHp, rUp m 15 0 14 (m 15 0 13) 67 = m 67 := fun m => rUp_grp (by decide)
  have g68 : ∀ m : rHp, rUp m 15 0 14 (m 15 0 13) 68 = m 68 := fun m => rUp_grp (by decide)
  have k16 := a6 16 (by decide)
  have k17 := a6 17 (by decide)
  have k19 := a6 19 (by decide)
  have k20 := a6 20 (by decide)
  have k21 := a6 21 (by decide)
  have k26 := a6 26 (by decide)
  have n59 := bG 59 (by decide)
  have n61 := bG 61 (by decide)
  have n62 := bG 62 (by decide)
  have n63 := bG 63 (by decide)
  have n64 := bG 64 (by decide)
  have n65 := bG 65 (by decide)
  have n66 := bG 66 (by decide)
  have n67 := bG 67 (by decide)
  have n68 := bG 68 (by decide)
  unfold Rel qNc qNm qP FR vR at h ⊢
  simp only [p14, p8, p9, g61, g62, g63, g64, g65, g66, g67, g68] at h ⊢
  simp only [a1, a2, a3, a4, a5, k16, k17, k19, k20, k21, k26, b3, b8, b9, b13, b17, b32, n59, n61, n62, n63, n64, n65, n66, n67, n68]
  exact h
/-- the HEAD alone, where nothing is told -/
theorem head_Z {c0 m1 cU c1 : rHp} {h : Int} (e1 : rUp (rUp (fn110 [] cU).2.2 9 (cU 40 0 (cU 1 0 10)) 2 0) 9 (cU 40 0 (cU 1 0 10)) 3 0 = c1) (hR : qR 0 c0 m1 c1 m1) (hB : qB (fun _ => False) c1 m1) (h00 : 0 ≤ c0 1000 0 0) (hlim : 2 * c0 1000 0 0 + m1 15 0 34 ≤ 10239) (hh : h = 9 * c1 40 0 (c1 1 0 10)) (hp : c1 2 0 7 = 1) :
    qZ c0 m1 (fn146 [] cU).2.2 (fn27 [] m1).2.2 := by
  have hw := head_two hR hB h00 hlim hh
  have e146 : fn146 [] cU = qH6 c1 := by rw [fn146_eq, e1]
  rw [e146]
  rcases hw with ⟨H, i, w, c9, m9, w1, w2, w3, w4, w5, w6, w7, w8, w9, w10, w11, w12, w13⟩ | ⟨c', m', w1, w2, w3⟩
  · obtain ⟨s1, s2, s3, s4, s5, s6, s7, s8, s9⟩ := w4
    have h7 : c9 2 0 7 = 1 := by rw [w7.2 7 (by decide)]; exact hp
    have hh9 : h = 9 * c9 40 0 (c9 1 0 10) := by rw [w7.1 40 (by decide) (by decide), w7.1 1 (by decide) (by decide)]; exact hh
    obtain ⟨P, h125, h21, hP⟩ := pred_two (n := i) w3.2.2.2.1 w10
    have e133 : fn133 [] c9 = (0, 1, rUp c9 10 h 8 P) := fn133_1 hh9 h7 (by rw [w9, s3]; exact h125)
    rw [w1, e133, w2]
    exact qZ_up w3 (by decide) (fH_grp fH_refl (by decide) (by decide)) fH_refl
  · rw [w1, w2]
    exact w3
theorem find_two1 {B : Int} {c m : rHp} (h : Rel B c m) (hB : B ≤ 10239) : Rel (B + 1) (hF1 c) (hG1 m) := by
  obtain ⟨c0, c1, m1, e1, e2, hR, hBB, h00, hlim, o7, x40, x7, x16, x73, m34, m17, m3, fin⟩ := start_any (p := 1) (r := 61) h hB (by decide)
  have k40 : qUc 1 c 40 0 (qUc 1 c 1 0 10) = c 40 0 (c 1 0 10) := rfl
  have e1' := e1
  rw [← k40] at e1'
  have hZ := head_Z (h := 9 * c 40 0 (c 1 0 10)) e1' hR hBB h00 hlim (by rw [x40]) x7
  obtain ⟨fR, fF, f9, f17, sd⟩ := fin _ _ hZ
  refine four (a := c 0 0 7 ≠ 0) (b := m 15 0 59 ≠ 0) h fR sd (if_two rfl) ?_
  have e3 : (fn32 [61] (rUp (rUp (fn5 [] m).2.2 15 0 0 0) 15 0 14 (m 15 0 13))).2.2 = m1 := by
    rw [qUm_eq, ← e2]; rfl
  refine if_two ?_
  rw [← e3]
  rfl
theorem feed_row {B a b d e f v v' : Int} {o o' : Nat} {x y : List Int} {c m c' m' : rHp} (h : Rel B c m) (l1 : sn267 (a :: b :: d :: e :: f :: x) c o v c') (l2 : sn3 (a :: b :: d :: e :: f :: y) m o' v' m') : Rel (B + 20) c' m' := by
  have l1 : (o, v, c') = fn267 [a, b, d, e, f] c := l1
  have l2 : (o', v', m') = fn3 [a, b, d, e, f] m := l2
  obtain ⟨o1, v1, c1, v2, m1, p1, p2, hR⟩ := feed_two (a := a) (b := b) (d := d) (e := e) (f := f) h
  have e1 : c' = (fn267 [a, b, d, e, f] c).2.2 := congrArg (fun r : zR => r.2.2) l1
  have e2 : m' = m1 := by
    have := congrArg (fun r : zR => r.2.2) l2
    rw [p2] at this
    exact this
  have e3 : eqC c1 (fn267 [a, b, d, e, f] c).2.2 := by
    unfold fn267
    simp only [zLet, List.getD_cons_zero, List.getD_cons_succ, p1]
    split
    · exact eqC_up rfl (by decide)
    · exact eqC_rf
  rw [e1, e2]
  exact Rel_eq hR e3 eqM_rf
theorem end_row {B a v v' : Int} {o o' : Nat} {x y : List Int} {c m c' m' : rHp} (h : Rel B c m) (l1 : sn268 (a :: x) c o v c') (l2 : sn4 (a :: y) m o' v' m') : Rel B c' m' := by
  have l1 : (o, v, c') = fn268 [a] c := l1
  have l2 : (o', v', m') = fn4 [a] m := l2
  obtain ⟨o1, v1, c1, v2, m1, p1, p2, hR⟩ := end_two (n := a) h
  have e1 : c' = (fn268 [a] c).2.2 := congrArg (fun r : zR => r.2.2) l1
  have e2 : m' = m1 := by
    have := congrArg (fun r : zR => r.2.2) l2
    rw [p2] at this
    exact this
  have e3 : eqC c1 (fn268 [a] c).2.2 := by
    unfold fn268
    simp only [zLet, List.getD_cons_zero, List.getD_cons_succ, p1]
    split
    · exact eqC_up rfl (by decide)
    · exact eqC_rf
  rw [e1, e2]
  exact Rel_eq hR e3 eqM_rf
theorem tell_row {B v v' : Int} {o o' : Nat} {x y : List Int} {c m c' m' : rHp} (h : Rel B c m) (hB : B ≤ 10239) (l1 : sn166 x c o v c') (l2 : sn51 y m o' v' m') : Rel (B + 1) c' m' := by
  have l1 : (o, v, c') = fn166 [] c := l1
  have l2 : (o', v', m') = fn51 [] m := l2
  obtain ⟨v1, c1, v2, m1, p1, p2, hR⟩ := tell_two h hB
  rw [p1] at l1
  rw [p2] at l2
  have e1 : c' = c1 := congrArg (fun r : zR => r.2.2) l1
  have e2 : m' = m1 := congrArg (fun r : zR => r.2.2) l2
  rw [e1, e2]
  exact hR
theorem untell_row {B v v' : Int} {o o' : Nat} {x y : List Int} {c m c' m' : rHp} (h : Rel B c m) (hB : B ≤ 10239) (l1 : sn167 x c o v c') (l2 : sn52 y m o' v' m') : Rel (B + 1) c' m' := by
  have l1 : (o, v, c') = fn167 [] c := l1
  have l2 : (o', v', m') = fn52 [] m := l2
  obtain ⟨v1, c1, v2, m1, p1, p2, hR⟩ := untell_two h hB
  rw [p1] at l1
  rw [p2] at l2
  have e1 : c' = c1 := congrArg (fun r : zR => r.2.2) l1
  have e2 : m' = m1 := congrArg (fun r : zR => r.2.2) l2
  rw [e1, e2]
  exact hR
noncomputable def maC10 (ms : Nat) : Bool := (!Nat.testBit ms (128 * 2 + 3)) && (!Nat.testBit ms (128 * 3 + 1)) && (!Nat.testBit ms (128 * 1 + 7)) && (!Nat.testBit ms (128 * 1 + 9)) && [16, 17, 19, 20, 21, 26].all (fun G => !Nat.testBit ms (2048 + G))
noncomputable def maM32 (ms : Nat) : Bool := (!Nat.testBit ms (128 * 15 + 3)) && (!Nat.testBit ms (128 * 15 + 8)) && (!Nat.testBit ms (128 * 15 + 9)) && (!Nat.testBit ms (128 * 15 + 13)) && (!Nat.testBit ms (128 * 15 + 17)) && [59, 61, 62, 63, 64, 65, 66, 67, 68].all (fun G => !Nat.testBit ms (2048 + G))
theorem eqC_k10 {ms : Nat} (h : maC10 ms = true) {g g' : rHp} (hk : ∀ (G : Nat) (k j : Int), ¬ rMdP ms G j → g' G k j = g G k j) : eqC (rUp g 1 0 10 (g' 1 0 10)) g' := by
  unfold maC10 at h
  simp only [Bool.and_eq_true, Bool.not_eq_true'] at h
  obtain ⟨⟨⟨⟨h1, h2⟩, h3⟩, h4⟩, h6⟩ := h
  have n : ∀ G : Nat, G ≠ 1 → rUp g 1 0 10 (g' 1 0 10) G = g G := fun G z => rUp_grp z
  refine ⟨?_, ?_, ?_, ?_, ?_, fun G z => ?_⟩
  · rw [n 2 (by decide)]; exact zKo (by decide) h1 hk 0
  · rw [n 3 (by decide)]; exact zKo (by decide) h2 hk 0
  · rw [rUp_ne (by decide)]; exact zKo (by decide) h3 hk 0
  · rw [rUp_ne (by decide)]; exact zKo (by decide) h4 hk 0
  · rw [rUp_at]
  · rw [n G (by rintro rfl; exact absurd z (by decide))]
    refine zKa ?_ ?_ hk
    · simp only [List.mem_cons, List.not_mem_nil, or_false] at z; omega
    · have := List.all_eq_true.mp h6 G z
      simpa using this
theorem eqM_k32 {ms : Nat} (h : maM32 ms = true) {g g' : rHp} (hk : ∀ (G : Nat) (k j : Int), ¬ rMdP ms G j → g' G k j = g G k j) : eqM (rUp g 15 0 32 (g' 15 0 32)) g' := by
  unfold maM32 at h
  simp only [Bool.and_eq_true, Bool.not_eq_true'] at h
  obtain ⟨⟨⟨⟨⟨h1, h2⟩, h3⟩, h4⟩, h5⟩, h7⟩ := h
  have n : ∀ G : Nat, G ≠ 15 → rUp g 15 0 32 (g' 15 0 32) G = g G := fun G z => rUp_grp z
  refine ⟨⟨?_, ?_, ?_, ?_, ?_⟩, ?_, fun G z => ?_⟩
  · rw [rUp_ne (by decide)]; exact zKo (by decide) h1 hk 0
  · rw [rUp_ne (by decide)]; exact zKo (by decide) h2 hk 0
  · rw [rUp_ne (by decide)]; exact zKo (by decide) h3 hk 0
  · rw [rUp_ne (by decide)]; exact zKo (by decide) h4 hk 0
  · rw [rUp_ne (by decide)]; exact zKo (by decide) h5 hk 0
  · rw [rUp_at]
  · rw [n G (by rintro rfl; exact absurd z (by decide))]
    refine zKa ?_ ?_ hk
    · simp only [List.mem_cons, List.not_mem_nil, or_false] at z; omega
    · have := List.all_eq_true.mp h7 G z
      simpa using this
/-- the number of RULES is another -/
theorem Rel_n {B n : Int} {c m : rHp} (h : Rel B c m) (h0 : 0 ≤ n) (h1 : n ≤ 60) : Rel B (rUp c 1 0 10 n) (rUp m 15 0 32 n) := by
  have x : ∀ G : Nat, G ≠ 1 → rUp c 1 0 10 n G = c G := fun G z => rUp_grp z
  have y : ∀ G : Nat, G ≠ 15 → rUp m 15 0 32 n G = m G := fun G z => rUp_grp z
  have xj : ∀ j : Int, j ≠ 10 → rUp c 1 0 10 n 1 0 j = c 1 0 j := fun j z => rUp_ne (fun w => z w.2.2)
  have yj : ∀ j : Int, j ≠ 32 → rUp m 15 0 32 n 15 0 j = m 15 0 j := fun j z => rUp_ne (fun w => z w.2.2)
  exact Rel_ru h (x 3 (by decide)) (x 26 (by decide)) (fun j z => xj j (by omega)) (x 16 (by decide)) (x 17 (by decide)) (x 19 (by decide)) (x 20 (by decide)) (fun j z => yj j (by omega)) (fun G z => y G (by omega)) (by rw [x 2 (by decide)]) (x 21 (by decide)) ⟨by rw [rUp_at, rUp_at], by rw [rUp_at]; exact h0, by rw [rUp_at]; exact h1⟩
theorem eqM_n {a b : rHp} {n : Int} (h : eqM a b) : eqM (rUp a 15 0 32 n) (rUp b 15 0 32 n) := by
  obtain ⟨⟨b3, b8, b9, b13, b17⟩, b32, bG⟩ := h
  have q : ∀ (g : rHp) (j : Int), j ≠ 32 → rUp g 15 0 32 n 15 0 j = g 15 0 j := fun g j z => rUp_ne (fun w => z w.2.2)
  refine ⟨⟨?_, ?_, ?_, ?_, ?_⟩, by rw [rUp_at, rUp_at], fun G z => ?_⟩
  · rw [q b 3 (by decide), q a 3 (by decide)]; exact b3
  · rw [q b 8 (by decide), q a 8 (by decide)]; exact b8
  · rw [q b 9 (by decide), q a 9 (by decide)]; exact b9
  · rw [q b 13 (by decide), q a 13 (by decide)]; exact b13
  · rw [q b 17 (by decide), q a 17 (by decide)]; exact b17
  · rw [rUp_grp (by rintro rfl; exact absurd z (by decide)), rUp_grp (by rintro rfl; exact absurd z (by decide))]; exact bG G z
theorem drop_row {B r v v' : Int} {o o' : Nat} {x y : List Int} {g1 g2 g3 : rHp} (hR : Rel B g1 g1) (l1 : sr269 (r :: x) g1 o v g2) (l2 : sr54 (r :: y) g2 o' v' g3) (k1 : eqC (rUp g1 1 0 10 (g2 1 0 10)) g2) (k2 : eqM g1 g2) (k3 : eqM (rUp g2 15 0 32 (g3 15 0 32)) g3) (k4 : eqC g2 g3) :
    ((v = 0 ∧ g3 15 0 0 = 0 ∧ g2 112 0 0 = v') ∨ (v = 1 ∧ g3 15 0 0 = 1)) ∧ Rel B g3 g3 := by
  have l1 : if 0 ≤ r ∧ r < g1 1 0 10 then v = 0 ∧ g2 112 0 0 = g1 1 0 10 - 1 ∧ g2 1 0 10 = g1 1 0 10 - 1 else v = 1 ∧ g2 1 0 10 = g1 1 0 10 := l1
  have l2 : if 0 ≤ r ∧ r < g2 15 0 32 then v' = g2 15 0 32 - 1 ∧ g3 15 0 0 = 0 ∧ g3 15 0 32 = g2 15 0 32 - 1 else v' = 0 ∧ g3 15 0 0 = 1 ∧ g3 15 0 32 = g2 15 0 32 := l2
  have e32 : g2 15 0 32 = g1 15 0 32 := k2.2.1
  obtain ⟨e10, e11, e12⟩ := hR.2.2.2.2.2.1
  rw [e32, ← e10] at l2
  have fin : g3 15 0 32 = g2 1 0 10 → 0 ≤ g2 1 0 10 → g2 1 0 10 ≤ 60 → Rel B g3 g3 := fun a1 a2 a3 => Rel_eq (Rel_n hR a2 a3) (eqC_tr k1 k4) (eqM_tr (eqM_n k2) (by rw [← a1]; exact k3))
  by_cases hb : 0 ≤ r ∧ r < g1 1 0 10
  · rw [if_pos hb] at l1 l2
    obtain ⟨a1, a2, a3⟩ := l1
    obtain ⟨b1, b2, b3⟩ := l2
    exact ⟨Or.inl ⟨a1, b2, by rw [a2, b1]⟩, fin (by rw [b3, a3]) (by omega) (by omega)⟩
  · rw [if_neg hb] at l1 l2
    obtain ⟨a1, a3⟩ := l1
    obtain ⟨b1, b2, b3⟩ := l2
    exact ⟨Or.inr ⟨a1, b2⟩, fin (by rw [b3, a3]) (by omega) (by omega)⟩
theorem untell_rowp {B v v' : Int} {o o' : Nat} {x y : List Int} {c m c' m' : rHp} (h : Rel B c m) (hB : B ≤ 10239) (l1 : sn167 x c o v c') (l2 : sn52 y m o' v' m') : v = v' ∧ Rel (B + 1) c' m' := by
  have l1 : (o, v, c') = fn167 [] c := l1
  have l2 : (o', v', m') = fn52 [] m := l2
  obtain ⟨v1, c1, v2, m1, p1, p2, p3, hR⟩ := untell_twp h hB
  rw [p1] at l1
  rw [p2] at l2
  have e1 : c' = c1 := congrArg (fun r : zR => r.2.2) l1
  have e2 : m' = m1 := congrArg (fun r : zR => r.2.2) l2
  have e3 : v = v1 := congrArg (fun r : zR => r.2.1) l1
  have e4 : v' = v2 := congrArg (fun r : zR => r.2.1) l2
  rw [e1, e2, e3, e4]
  exact ⟨p3, hR⟩
