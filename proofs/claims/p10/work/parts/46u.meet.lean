/-! ===== a VARIABLE met later; a sign looked at ===== -/
theorem fH_both {o : Nat} {L : List Nat} {J : List Int} {g g_q : rHp} (h : fH o L J g g_q) (G : Nat) (k j v : Int) : fH o L J (rUp g G k j v) (rUp g_q G k j v) := by
  refine ⟨fun G_q a b => ?_, fun i a => ?_⟩
  · funext k_q j_q
    have := congrFun (congrFun (h.1 G_q a b) k_q) j_q
    simp only [rUp, this]
  · have := h.2 i a
    simp only [rUp, this]
theorem fn120_is {c : rHp} {w : Int} : fn120 [w] c = if pFd (fun j => decide (c 22 0 j ≠ w)) (c 2 0 13) < 0 then (if c 2 0 13 < 8 then (0, c 2 0 13, rUp (rUp (rUp c 22 0 (c 2 0 13) w) 23 0 (c 2 0 13) 1) 2 0 13 (c 2 0 13 + 1)) else (0, -1, c)) else (0, pFd (fun j => decide (c 22 0 j ≠ w)) (c 2 0 13), rUp c 23 0 (pFd (fun j => decide (c 22 0 j ≠ w)) (c 2 0 13)) (zF2 .iadd (c 23 0 (pFd (fun j => decide (c 22 0 j ≠ w)) (c 2 0 13))) 1)) := by
  unfold fn120
  simp only [zLet, List.getD_cons_zero, fn119_eq]
/-- a VARIABLE may be met behind a step that touches no VARIABLES -/
theorem meet_both {L : List Nat} {J : List Int} {A A3 B : rHp} {w v : Int} (h : fn120 [w] A = (0, v, A3)) (hf : fH 2 L J A B) (h22 : 22 ∉ L) (h23 : 23 ∉ L) (h13 : 13 ∉ J) : ∃ B3, fn120 [w] B = (0, v, B3) ∧ fH 2 L J A3 B3 ∧ fH 2 [22, 23] [13] B B3 := by
  have e22 : B 22 = A 22 := hf.1 22 h22 (by decide)
  have e23 : B 23 = A 23 := hf.1 23 h23 (by decide)
  have e13 : B 2 0 13 = A 2 0 13 := hf.2 13 h13
  rw [fn120_is] at h
  rw [fn120_is, e22, e23, e13]
  by_cases h1 : pFd (fun j => decide (A 22 0 j ≠ w)) (A 2 0 13) < 0
  · rw [if_pos h1] at h ⊢
    by_cases h2 : A 2 0 13 < 8
    · rw [if_pos h2] at h ⊢
      obtain ⟨-, h⟩ := Prod.mk.injEq _ _ _ _ ▸ h
      obtain ⟨hv, hA⟩ := Prod.mk.injEq _ _ _ _ ▸ h
      refine ⟨_, by rw [hv], ?_, ?_⟩
      · rw [← hA, hv]
        exact fH_both (fH_both (fH_both hf _ _ _ _) _ _ _ _) _ _ _ _
      · exact fH_fld (fH_grp (fH_grp fH_refl (by decide) (by decide)) (by decide) (by decide)) (by decide)
    · rw [if_neg h2] at h ⊢
      obtain ⟨-, h⟩ := Prod.mk.injEq _ _ _ _ ▸ h
      obtain ⟨hv, hA⟩ := Prod.mk.injEq _ _ _ _ ▸ h
      exact ⟨_, by rw [hv], by rw [← hA]; exact hf, fH_refl⟩
  · rw [if_neg h1] at h ⊢
    obtain ⟨-, h⟩ := Prod.mk.injEq _ _ _ _ ▸ h
    obtain ⟨hv, hA⟩ := Prod.mk.injEq _ _ _ _ ▸ h
    refine ⟨_, by rw [hv], ?_, ?_⟩
    · rw [← hA, hv]
      exact fH_both hf _ _ _ _
    · exact fH_grp fH_refl (by decide) (by decide)
theorem fn119_same {c c_q : rHp} {w u : Int} (h : fn119 [w] c = (0, u, c)) (h22 : c_q 22 = c 22) (h13 : c_q 2 0 13 = c 2 0 13) : fn119 [w] c_q = (0, u, c_q) := by
  rw [fn119_eq] at h ⊢
  rw [h22, h13]
  have := congrArg (fun q => q.2.1) h
  simp only at this
  rw [this]
/-- the sign of a comparison by the class, whatever VARIABLES there are -/
theorem fn154_all (c : rHp) : ∃ b c5, fn154 [] c = (0, b, c5) ∧ (b = 0 ∨ b = 1) ∧ fH 2 [10] [6, 4] c c5 ∧ (∀ h j, ¬ (h = qG c ∧ j = 4) → c5 10 h j = c 10 h j) ∧ ∀ u x, fn154 [] (rUp c 23 0 u x) = (0, b, rUp c5 23 0 u x) := by
  have hG : c 9 (c 40 0 (c 1 0 10)) 2 + 9 * c 40 0 (c 1 0 10) + 1 = qG c := rfl
  have hu : ∀ u x, fn154 [] (rUp c 23 0 u x) = (let r := fn154 [] c; (r.1, r.2.1, rUp r.2.2 23 0 u x)) := by
    intro u x
    have k : ∀ (G : Nat), G ≠ 23 → rUp c 23 0 u x G = c G := fun G q => rUp_grp q
    have cm : ∀ (g : rHp) (G : Nat) (k j v : Int), G ≠ 23 → rUp (rUp g 23 0 u x) G k j v = rUp (rUp g G k j v) 23 0 u x := fun g G k j v q => rUp_comm (fun y => q y.1.symm)
    unfold fn154
    simp only [zLet, fn114_eq, fn109_eq, k 1 (by decide), k 40 (by decide), k 9 (by decide), k 2 (by decide), k 21 (by decide), cm _ 2 _ _ _ (by decide), cm _ 10 _ _ _ (by decide), rUp_at]
    have r26 : ∀ (g : rHp), rUp g 23 0 u x 2 0 6 = g 2 0 6 := fun g => by rw [rUp_grp (by decide)]
    simp only [r26, rUp_at]
    repeat' split
    all_goals rfl
  have fr : ∃ b c5, fn154 [] c = (0, b, c5) ∧ (b = 0 ∨ b = 1) ∧ fH 2 [10] [6, 4] c c5 ∧ (∀ h j, ¬ (h = qG c ∧ j = 4) → c5 10 h j = c 10 h j) := by
    unfold fn154
    simp only [zLet, fn114_eq, fn109_eq, hG, rUp_at]
    split
    · split
      · split
        · refine ⟨_, _, rfl, Or.inr rfl, fH_fld (fH_grp (fH_fld fH_refl (by decide)) (by decide) (by decide)) (by decide), fun h j q => ?_⟩
          rw [rUp_grp (by decide), rUp_ne (fun y => q y.2), rUp_grp (by decide)]
        · split
          · refine ⟨_, _, rfl, Or.inr rfl, fH_fld (fH_grp (fH_fld fH_refl (by decide)) (by decide) (by decide)) (by decide), fun h j q => ?_⟩
            rw [rUp_grp (by decide), rUp_ne (fun y => q y.2), rUp_grp (by decide)]
          · refine ⟨_, _, rfl, Or.inr rfl, fH_fld (fH_grp (fH_fld (fH_grp (fH_fld fH_refl (by decide)) (by decide) (by decide)) (by decide)) (by decide) (by decide)) (by decide), fun h j q => ?_⟩
            rw [rUp_grp (by decide), rUp_ne (fun y => q y.2), rUp_grp (by decide), rUp_ne (fun y => q y.2), rUp_grp (by decide)]
      · split
        · refine ⟨_, _, rfl, Or.inr rfl, fH_fld (fH_grp (fH_fld fH_refl (by decide)) (by decide) (by decide)) (by decide), fun h j q => ?_⟩
          rw [rUp_grp (by decide), rUp_ne (fun y => q y.2), rUp_grp (by decide)]
        · refine ⟨_, _, rfl, Or.inl rfl, fH_fld (fH_fld fH_refl (by decide)) (by decide), fun h j q => ?_⟩
          rw [rUp_grp (by decide), rUp_grp (by decide)]
    · refine ⟨_, _, rfl, Or.inl rfl, fH_fld (fH_fld fH_refl (by decide)) (by decide), fun h j q => ?_⟩
      rw [rUp_grp (by decide), rUp_grp (by decide)]
  obtain ⟨b, c5, f1, f2, f3, f4⟩ := fr
  refine ⟨b, c5, f1, f2, f3, f4, fun u x => ?_⟩
  rw [hu u x, f1]
/-- the end of a BROKEN text, VARIABLES having been met -/
theorem qZ_upV {d : Int} {c0 m0 c m c_q m_q : rHp} (h : qR d c0 m0 c m) (hd : d ≤ 1) (hc : fH 2 (22 :: 23 :: lC) (13 :: jC) c c_q) (hm : fH 15 (74 :: 82 :: 83 :: 84 :: lM) jM m m_q) : qZ c0 m0 c_q m_q := by
  obtain ⟨a1, a2, a3, a4, a5, a6, a7, a8, a9, a10⟩ := h
  have g : ∀ G, G ∉ 22 :: 23 :: lC → G ≠ 2 → c_q G = c G := hc.1
  have k : ∀ G, G ∉ 74 :: 82 :: 83 :: 84 :: lM → G ≠ 15 → m_q G = m G := hm.1
  refine ⟨qN_up a3 (g 3 (by decide) (by decide)) (g 26 (by decide) (by decide)) (hm.2 8 (by decide)) (hm.2 9 (by decide)) (k 61 (by decide) (by decide)) (k 62 (by decide) (by decide)) (k 63 (by decide) (by decide)),
    qP_up a4 (by rw [g 1 (by decide) (by decide)]) (g 16 (by decide) (by decide)) (g 17 (by decide) (by decide)) (hm.2 14 (by decide)) (k 64 (by decide) (by decide)) (k 65 (by decide) (by decide)) (k 66 (by decide) (by decide)),
    fH_trans a6 (fH_sub hc (by decide) (by decide)), fun j hj => by rw [g 1 (by decide) (by decide)]; exact a7 j hj, fH_trans a8 (fH_sub hm (by decide) (by decide)), ⟨by rw [hm.2 14 (by decide)]; exact a9.1, fun p hp => by rw [k 66 (by decide) (by decide)]; exact a9.2 p hp⟩, ?_⟩
  have e34 : m 15 0 34 = m0 15 0 34 := a8.2 34 (by decide)
  have := a2.2.2
  have h14 := a10.1
  rw [g 3 (by decide) (by decide)]
  exact ⟨by omega, pU_up a10.2.2 (hm.2 14 (by decide)) (g 1 (by decide) (by decide)) (g 16 (by decide) (by decide)) (g 17 (by decide) (by decide)) (k 64 (by decide) (by decide)) (k 65 (by decide) (by decide)) (k 66 (by decide) (by decide))⟩
