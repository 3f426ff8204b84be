/-! ===== WAYS as a whole, by both ===== -/
theorem walk_lev {J : rHp → Prop} {Q : rHp → rHp → Prop} {r R n : Int} {kb : Int → Int} {Z0 Z1 : Int → rHp → zR} {F W : rHp → zR} {Y : Int → rHp → Int} {g : Int} (hY : ∀ x g, g 6 0 13 = x → Y x g = x) (hJ : wJQ J Q) (hI : zI J r n Z0 Z1) (hA : wSp J Q r R n kb Z0 Z1 n (fn245 [])) (g0 : 0 ≤ g) (hW : ∀ c, W c = gWk F Y g (g + 1) c) (hF : g + 1 ≤ n → wSp J Q r R n kb Z0 Z1 (g + 1) F) (gn : g ≤ n) : wSp J Q r R n kb Z0 Z1 g W := by
  by_cases b : g = n
  · subst b
    intro c m h
    rw [hW c, gWk_end (by rw [h.st.rl, h.st.n1]; exact Int.le_refl _)]
    exact hA c m h
  · intro c m h
    rw [hW c]
    exact walk_sp hY hJ hI (hF (by omega)) g0 (by omega) c m h
theorem walk_all {J : rHp → Prop} {Q : rHp → rHp → Prop} {r R n : Int} {kb : Int → Int} {Z0 Z1 : Int → rHp → zR} (hJ : wJQ J Q) (hI : zI J r n Z0 Z1) (hA : wSp J Q r R n kb Z0 Z1 n (fn245 [])) (n8 : 0 ≤ n ∧ n ≤ 8) : wSp J Q r R n kb Z0 Z1 0 (fn261 []) := by
  have y : ∀ x (g : rHp), g 6 0 13 = x → gY x g = x := fun _ _ h => h
  have y7 : ∀ x (g : rHp), g 6 0 13 = x → gY7 x g = x := fun _ _ _ => rfl
  have w8 : (8 : Int) ≤ n → wSp J Q r R n kb Z0 Z1 8 (fn245 []) := fun z => by
    have e : n = 8 := by omega
    rw [e] at hA
    exact e ▸ hA
  have w7 : (7 : Int) ≤ n → wSp J Q r R n kb Z0 Z1 7 (fn247 []) := fun z => walk_lev y7 hJ hI hA (by decide) (fun c => gW_247 c) w8 z
  have w6 : (6 : Int) ≤ n → wSp J Q r R n kb Z0 Z1 6 (fn249 []) := fun z => walk_lev y hJ hI hA (by decide) (fun c => gW_249 c) w7 z
  have w5 : (5 : Int) ≤ n → wSp J Q r R n kb Z0 Z1 5 (fn251 []) := fun z => walk_lev y hJ hI hA (by decide) (fun c => gW_251 c) w6 z
  have w4 : (4 : Int) ≤ n → wSp J Q r R n kb Z0 Z1 4 (fn253 []) := fun z => walk_lev y hJ hI hA (by decide) (fun c => gW_253 c) w5 z
  have w3 : (3 : Int) ≤ n → wSp J Q r R n kb Z0 Z1 3 (fn255 []) := fun z => walk_lev y hJ hI hA (by decide) (fun c => gW_255 c) w4 z
  have w2 : (2 : Int) ≤ n → wSp J Q r R n kb Z0 Z1 2 (fn257 []) := fun z => walk_lev y hJ hI hA (by decide) (fun c => gW_257 c) w3 z
  have w1 : (1 : Int) ≤ n → wSp J Q r R n kb Z0 Z1 1 (fn259 []) := fun z => walk_lev y hJ hI hA (by decide) (fun c => gW_259 c) w2 z
  exact walk_lev y hJ hI hA (by decide) (fun c => gW_261 c) w1 n8.1
/-! the reference's ways: heads come (72), rows (73), answers (74) -/
noncomputable def j72 (m0 m : rHp) : Prop := m 73 = m0 73 ∧ m 77 = m0 77 ∧ m 78 = m0 78
noncomputable def j73 (m0 m : rHp) : Prop := j72 m0 m ∧ m 96 = m0 96 ∧ m 100 = m0 100
theorem zI_72 (m0 : rHp) (r : Int) : zI (j72 m0) r (m0 73 0 r) (fun g m => zLoop (en72 m0) (0, [r, g], m)) (fun g m => zLoop (en72 m0) (1, [r, g, g + 1 + 8 * r], m)) := by
  have back : ∀ (g : Int) (m : rHp), zLoop (en72 m0) (1, [r, g + -1, g + 8 * r], m) = zLoop (en72 m0) (1, [r, g - 1, g - 1 + 1 + 8 * r], m) := fun g m => by
    rw [show g - 1 + 1 = g by omega, show g - 1 = g + -1 by omega]
  refine ⟨fun g m h => ?_, fun g m j h hn hk => ?_, fun g m j h g0 hk => ?_, fun g m j h hn hk hk4 => ?_, fun g m j h hn hk => ?_, fun g m j h g0 hk => ?_⟩
  · show zLoop (en72 m0) (0, [r, g], m) = _
    refine zLoop_inr ?_
    unfold en72
    simp only [zLet, List.getD_cons_zero, List.getD_cons_succ, ↓reduceIte]
    rw [if_pos h]
  · show zLoop (en72 m0) (0, [r, g], m) = zTk _ _ r g m (m 100 0 (m 78 0 (g + 8 * r)))
    rw [j.2.1] at hk
    unfold zTk
    rw [j.2.2, zLoop_eq]
    unfold en72
    simp only [zLet, List.getD_cons_zero, List.getD_cons_succ, ↓reduceIte]
    rw [if_neg (fun z => z h), if_pos hn, if_pos (show 0 ≤ -m0 77 0 (g + 8 * r) + 4 by rw [hk]; decide), if_pos hk]
    by_cases a : (fn62 [r, g, m 100 0 (m0 78 0 (g + 8 * r))] m).2.1 ≥ 0
    · rw [if_pos a, if_pos a]
      by_cases b : m 15 0 72 + 1 ≤ 50000
      · rw [if_pos b, if_pos b]; rfl
      · rw [if_neg b, if_neg b]; rfl
    · rw [if_neg a, if_neg a]
      exact back g _
  · show zLoop (en72 m0) (1, [r, g, g + 1 + 8 * r], m) = zTk _ _ r g m (m 96 0 (m 104 0 g))
    rw [j.2.1] at hk
    unfold zTk
    rw [zLoop_eq]
    unfold en72
    simp only [zLet, List.getD_cons_zero, List.getD_cons_succ, ↓reduceIte, Nat.one_ne_zero]
    rw [if_neg (show ¬ g < 0 by omega), if_neg (fun z => z h), if_pos (show 0 ≤ -m0 77 0 (g + 8 * r) + 4 by rw [hk]; decide), if_pos hk]
    by_cases a : (fn62 [r, g, m 96 0 (m 104 0 g)] m).2.1 ≥ 0
    · rw [if_pos a, if_pos a]
      by_cases b : m 15 0 72 + 1 ≤ 50000
      · rw [if_pos b, if_pos b]; rfl
      · rw [if_neg b, if_neg b]; rfl
    · rw [if_neg a, if_neg a]
      exact back g _
  · show zLoop (en72 m0) (0, [r, g], m) = if 1 ≤ (fn64 [g + 8 * r] m).2.1 then zLoop (en72 m0) (0, [r, g + 1], (fn64 [g + 8 * r] m).2.2) else zLoop (en72 m0) (1, [r, g - 1, g - 1 + 1 + 8 * r], (fn64 [g + 8 * r] m).2.2)
    rw [j.2.1] at hk hk4
    rw [zLoop_eq]
    unfold en72
    simp only [zLet, List.getD_cons_zero, List.getD_cons_succ, ↓reduceIte]
    rw [if_neg (fun z => z h), if_pos hn, if_pos (show 0 ≤ -m0 77 0 (g + 8 * r) + 4 by omega), if_neg hk]
    by_cases a : 1 ≤ (fn64 [g + 8 * r] m).2.1
    · rw [if_pos a, if_pos a]; rfl
    · rw [if_neg a, if_neg a]
      exact back g _
  · show zLoop (en72 m0) (0, [r, g], m) = if 1 ≤ (fn65 [g + 8 * r] m).2.1 then zLoop (en72 m0) (0, [r, g + 1], (fn65 [g + 8 * r] m).2.2) else zLoop (en72 m0) (1, [r, g - 1, g - 1 + 1 + 8 * r], (fn65 [g + 8 * r] m).2.2)
    rw [j.2.1] at hk
    rw [zLoop_eq]
    unfold en72
    simp only [zLet, List.getD_cons_zero, List.getD_cons_succ, ↓reduceIte]
    rw [if_neg (fun z => z h), if_pos hn, if_neg (show ¬ 0 ≤ -m0 77 0 (g + 8 * r) + 4 by omega)]
    by_cases a : 1 ≤ (fn65 [g + 8 * r] m).2.1
    · rw [if_pos a, if_pos a]; rfl
    · rw [if_neg a, if_neg a]
      exact back g _
  · show zLoop (en72 m0) (1, [r, g, g + 1 + 8 * r], m) = zLoop (en72 m0) (1, [r, g - 1, g - 1 + 1 + 8 * r], m)
    rw [j.2.1] at hk
    refine (zLoop_eq _ _).trans ?_
    unfold en72
    simp only [zLet, List.getD_cons_zero, List.getD_cons_succ, ↓reduceIte, Nat.one_ne_zero]
    rw [if_neg (show ¬ g < 0 by omega), if_neg (fun z => z h)]
    by_cases a : 0 ≤ -m0 77 0 (g + 8 * r) + 4
    · rw [if_pos a, if_neg hk]
      exact back g _
    · rw [if_neg a]
      exact back g _
