/-! ===== an ATOM's loop by both ===== -/
noncomputable def lA : List Nat := [3, 26, 22, 23, 10, 43, 44, 45, 46, 24, 25]
noncomputable def jA : List Int := [6, 8, 9, 10, 13, 5, 16]
noncomputable def lB : List Nat := [61, 62, 63, 74, 82, 83, 84, 80, 81, 88, 89, 90, 91]
noncomputable def jB : List Int := [8, 9, 35, 37, 38, 39, 40, 58]
/-- what holds between ARGS, beside qR -/
noncomputable def qJ (E : Prop) (H : Int → Prop) (kind n0 : Int) (cS mS : rHp) (i gets w : Int) (c m : rHp) : Prop := qS m ∧ qO H c m ∧ fH 2 lA jA cS c ∧ fH 15 lB jB mS m ∧
  (c 10 (qG cS) 4 = kind ∧ c 10 (qG cS) 5 = i ∧ c 10 (qG cS) 6 = w) ∧ qKr (c 2 0 5) ∧ (∀ v, m 74 0 (m 15 0 44) ≤ v → v < 8 → qBt (c 2 0 5) v ≠ 1) ∧
  (kind = 1 ∧ n0 = 0 ∧ c 2 0 5 = zF2 .ior (mS 15 0 45) gets ∨ kind = 2 ∧ n0 = 1 ∧ c 2 0 5 = mS 15 0 45) ∧ c 2 0 16 ≤ cS 2 0 16 + i ∧ (∀ G h, G ∈ [10, 43, 44, 45, 46] → h ≠ qG cS → c G h = cS G h) ∧
  qAs E kind (mS 15 0 45) (c 2 0 5) (qG cS) (4 * mS 73 0 (mS 15 0 44) + 32 * mS 15 0 44) i c m ∧ gGd (mS 15 0 45) (qG cS) i c
theorem qJ_move {E : Prop} {H : Int → Prop} {kind n0 i gets w : Int} {cS mS c m c_q m_q : rHp} (h : qJ E H kind n0 cS mS i gets w c m) (hc : fH 2 [] [6] c c_q) (hm : fH 15 [] [35] m m_q) (ha : m 15 0 35 ≤ m_q 15 0 35) : qJ E H kind n0 cS mS i gets w c_q m_q := by
  obtain ⟨a1, a2, a3, a4, a5, a6, a7, a8, a9, a10, a11, a12⟩ := h
  have e5 : c_q 2 0 5 = c 2 0 5 := hc.2 5 (by decide)
  have e16 : c_q 2 0 16 = c 2 0 16 := hc.2 16 (by decide)
  have g : ∀ G : Nat, G ≠ 2 → c_q G = c G := fun G q => hc.1 G (by simp) q
  have k : ∀ G : Nat, G ≠ 15 → m_q G = m G := fun G q => hm.1 G (by simp) q
  have e74 : m_q 74 0 (m_q 15 0 44) = m 74 0 (m 15 0 44) := by rw [k 74 (by decide), hm.2 44 (by decide)]
  refine ⟨qS_up a1 (hm.2 44 (by decide)) (k 74 (by decide)) (k 84 (by decide)) ha, qO_up a2 e16 (g 25 (by decide)) (hm.2 58 (by decide)) (k 89 (by decide)) (k 90 (by decide)) (k 91 (by decide)) (by rw [e74]; exact Int.le_refl _), fH_trans a3 (fH_sub hc (by decide) (by decide)), fH_trans a4 (fH_sub hm (by decide) (by decide)), ?_, ?_, ?_, ?_, ?_, ?_, ?_, gGd_up a12 (by rw [g 10 (by decide)]) (by rw [g 43 (by decide)]) (by rw [g 44 (by decide)])⟩
  · rw [g 10 (by decide)]; exact a5
  · rw [e5]; exact a6
  · rw [e74, e5]; exact a7
  · rw [e5]; exact a8
  · rw [e16]; exact a9
  · intro G h q q2
    rw [g G (memG q).1]
    exact a10 G h q q2
  · rw [e5]
    exact qAs_up a11 (by rw [g 43 (by decide)]) (by rw [g 44 (by decide)]) (by rw [g 46 (by decide)]) (k 80 (by decide)) (k 81 (by decide))
theorem qM6_fr {n0 X p : Int} {m : rHp} : fH 15 [80, 81, 88, 89, 90, 91] [58] m (qM6 n0 X p m) := by
  have h5 : fH 15 [80, 81, 88, 89, 90, 91] [58] m (qM5 X m) := fH_grp (fH_grp fH_refl (by decide) (by decide)) (by decide) (by decide)
  unfold qM6
  split
  · exact h5
  · split
    · exact h5
    · exact fH_trans h5 (fH_sub qOw_fr (by decide) (by decide))
theorem qM6_80 {n0 X p : Int} {m : rHp} (y : Int) : qM6 n0 X p m 80 0 y = (if y = X then m 15 0 40 else m 80 0 y) ∧ qM6 n0 X p m 81 0 y = (if y = X then m 15 0 39 else m 81 0 y) := by
  have h5 : qM5 X m 80 0 y = (if y = X then m 15 0 40 else m 80 0 y) ∧ qM5 X m 81 0 y = (if y = X then m 15 0 39 else m 81 0 y) := by
    unfold qM5
    by_cases e : y = X
    · rw [if_pos e, if_pos e, e, rUp_grp (by decide), rUp_at, rUp_at]
      exact ⟨rfl, rfl⟩
    · rw [if_neg e, if_neg e, rUp_grp (by decide), rUp_ne (fun z => e z.2.2), rUp_ne (fun z => e z.2.2), rUp_grp (by decide)]
      exact ⟨rfl, rfl⟩
  unfold qM6
  split
  · exact h5
  · split
    · exact h5
    · rw [qOw_fr.1 80 (by decide) (by decide), qOw_fr.1 81 (by decide) (by decide)]
      exact h5
/-- one ARG more: what holds goes on to hold -/
theorem qJ_arg {E : Prop} {H : Int → Prop} {kind n0 i gets w X p : Int} {cS mS c m c_q m_q : rHp} (h : qJ E H kind n0 cS mS i gets w c m) (hi : 0 ≤ i) (hXx : X = i + (4 * mS 73 0 (mS 15 0 44) + 32 * mS 15 0 44)) (hAr : qAr kind (c 2 0 5) (qG cS) i (m_q 15 0 40) (m_q 15 0 39) c c_q m_q) (hvE : ∀ a b, vR c_q m_q a b → vE E a b) (hS : qS m_q) (hc : fH 2 lA jA c c_q) (hm : fH 15 [61, 62, 63, 74, 82, 83, 84] [8, 9, 35, 37, 38, 39, 40] m m_q)
    (h5 : c_q 10 (qG cS) 5 = c 10 (qG cS) 5 + 1) (h10 : ∀ h j, ¬ (h = qG cS ∧ j = 5) → c_q 10 h j = c 10 h j) (hX : qX kind (m_q 15 0 40) (m_q 15 0 39) c c_q) (hv : m_q 15 0 40 = 1 → qVr (m_q 15 0 39) ∧ m_q 15 0 39 < m_q 74 0 (m_q 15 0 44))
    (hn : m_q 74 0 (m_q 15 0 44) = m 74 0 (m 15 0 44) ∨ m_q 15 0 40 = 1 ∧ m_q 74 0 (m_q 15 0 44) = m 74 0 (m 15 0 44) + 1 ∧ m_q 15 0 39 = m 74 0 (m 15 0 44)) (hO : ∀ G h, G ∈ [10, 43, 44, 45, 46] → h ≠ qG cS → c_q G h = c G h) :
    qJ E H kind n0 cS mS (i + 1) (qGt n0 gets m_q) w c_q (qM6 n0 X p m_q) := by
  obtain ⟨a1, a2, a3, a4, a5, a6, a7, a8, a9, a10, a11, a12⟩ := h
  have fr : fH 15 [80, 81, 88, 89, 90, 91] [58] m_q (qM6 n0 X p m_q) := qM6_fr
  have e74 : qM6 n0 X p m_q 74 0 (qM6 n0 X p m_q 15 0 44) = m_q 74 0 (m_q 15 0 44) := by rw [fr.1 74 (by decide) (by decide), fr.2 44 (by decide)]
  have hcn : m 74 0 (m 15 0 44) ≤ m_q 74 0 (m_q 15 0 44) := by omega
  have x45 : m_q 15 0 45 = mS 15 0 45 := (hm.2 45 (by decide)).trans (a4.2 45 (by decide))
  have q45 : qM5 X m_q 15 0 45 = mS 15 0 45 := by
    unfold qM5
    rw [rUp_grp (by decide), rUp_grp (by decide)]; exact x45
  have q74 : qM5 X m_q 74 0 (qM5 X m_q 15 0 44) = m_q 74 0 (m_q 15 0 44) := by
    unfold qM5
    rw [rUp_grp (by decide), rUp_grp (by decide), rUp_grp (by decide), rUp_grp (by decide)]
  have o5 : ∀ cc : rHp, cc 2 0 16 = c 2 0 16 → cc 25 = c 25 → qO H cc (qM5 X m_q) := by
    intro cc q1 q2
    refine qO_up a2 q1 q2 ?_ ?_ ?_ ?_ (by rw [q74]; exact hcn)
    · unfold qM5
      rw [rUp_grp (by decide), rUp_grp (by decide)]; exact hm.2 58 (by decide)
    · unfold qM5
      rw [rUp_grp (by decide), rUp_grp (by decide)]; exact hm.1 89 (by decide) (by decide)
    · unfold qM5
      rw [rUp_grp (by decide), rUp_grp (by decide)]; exact hm.1 90 (by decide) (by decide)
    · unfold qM5
      rw [rUp_grp (by decide), rUp_grp (by decide)]; exact hm.1 91 (by decide) (by decide)
  refine ⟨?_, ?_, fH_trans a3 hc, ?_, ⟨?_, ?_, ?_⟩, ?_, ?_, ?_, ?_, ?_, ?_, gGd_add a12 hi (h10 _ _ (by omega)) hAr.1⟩
  · refine qS_up hS (fr.2 44 (by decide)) (fr.1 74 (by decide) (by decide)) (fr.1 84 (by decide) (by decide)) ?_
    rw [fr.2 35 (by decide)]; exact Int.le_refl _
  · unfold qM6
    rcases hX with ⟨s1, b1, b2, b3⟩ | ⟨s1, s2, b1, b2, b3⟩ | ⟨s1, s2, s3, b1, b2, b3⟩ | ⟨s1, s2, s3, b1, b2, b3⟩
    · rw [if_pos s1]
      exact o5 c_q b2 b3
    · rw [if_neg (fun q => q s1)]
      by_cases h0 : n0 = 0
      · rw [if_pos h0]; exact o5 c_q b2 b3
      · rw [if_neg h0]
        have hk2 : c 2 0 5 = mS 15 0 45 := by
          rcases a8 with q | q
          · exact absurd q.2.1 h0
          · exact q.2.2
        exact qO_kn (o5 c_q b2 b3) (hv s1).1 (by rw [q74]; exact (hv s1).2) (by rw [q45, ← hk2]; exact s2)
    · rw [if_neg (fun q => q s1)]
      have h0 : n0 = 0 := by
        rcases a8 with q | q
        · exact q.2.1
        · omega
      rw [if_pos h0]; exact o5 c_q b2 b3
    · rw [if_neg (fun q => q s1)]
      have hk2 : n0 = 1 ∧ c 2 0 5 = mS 15 0 45 := by
        rcases a8 with q | q
        · omega
        · exact q.2
      rw [if_neg (by omega)]
      exact qO_st (o5 c rfl rfl) (hv s1).1 (by rw [q74]; exact (hv s1).2) (by rw [q45, ← hk2.2]; exact s2) b2 b3
  · exact fH_trans (fH_trans a4 (fH_sub hm (by decide) (by decide))) (fH_sub fr (by decide) (by decide))
  · rw [h10 _ _ (by omega)]; exact a5.1
  · rw [h5, a5.2.1]
  · rw [h10 _ _ (by omega)]; exact a5.2.2
  · rcases hX with ⟨s1, b1, b2, b3⟩ | ⟨s1, s2, b1, b2, b3⟩ | ⟨s1, s2, s3, b1, b2, b3⟩ | ⟨s1, s2, s3, b1, b2, b3⟩
    · rw [b1]; exact a6
    · rw [b1]; exact a6
    · rw [b1]; exact (qSt_all a6 (hv s1).1).1
    · rw [b1]; exact a6
  · intro v v0 v1
    rw [e74] at v0
    rcases hX with ⟨s1, b1, b2, b3⟩ | ⟨s1, s2, b1, b2, b3⟩ | ⟨s1, s2, s3, b1, b2, b3⟩ | ⟨s1, s2, s3, b1, b2, b3⟩
    · rw [b1]; exact a7 v (by omega) v1
    · rw [b1]; exact a7 v (by omega) v1
    · have hq := hv s1
      have hq1 := hq.1
      unfold qVr at hq1
      rw [b1, qBt_other a6 hq.1 ⟨by omega, v1⟩ (by omega)]
      exact a7 v (by omega) v1
    · rw [b1]; exact a7 v (by omega) v1
  · unfold qGt
    rcases hX with ⟨s1, b1, b2, b3⟩ | ⟨s1, s2, b1, b2, b3⟩ | ⟨s1, s2, s3, b1, b2, b3⟩ | ⟨s1, s2, s3, b1, b2, b3⟩
    · rw [if_pos s1, b1]; exact a8
    · rw [if_neg (fun q => q s1), b1]
      rcases a8 with q | q
      · refine Or.inl ⟨q.1, q.2.1, ?_⟩
        rw [if_pos q.2.1, l2i_slot (hv s1).1, ior_assoc, ← q.2.2]
        exact ((qSt_all a6 (hv s1).1).2.1 s2).symm
      · exact Or.inr q
    · rw [if_neg (fun q => q s1), b1]
      rcases a8 with q | q
      · refine Or.inl ⟨q.1, q.2.1, ?_⟩
        rw [if_pos q.2.1, l2i_slot (hv s1).1, ior_assoc, ← q.2.2]
        rfl
      · omega
    · rw [if_neg (fun q => q s1), b1]
      rcases a8 with q | q
      · omega
      · exact Or.inr q
  · rcases hX with ⟨s1, b1, b2, b3⟩ | ⟨s1, s2, b1, b2, b3⟩ | ⟨s1, s2, s3, b1, b2, b3⟩ | ⟨s1, s2, s3, b1, b2, b3⟩
    · omega
    · omega
    · omega
    · omega
  · intro G h q q2
    rw [hO G h q q2]
    exact a10 G h q q2
  · refine qAs_add a11 hi (a8.imp (fun q => q.1) (fun q => q.1)) hAr hvE (fun q => (hv q).1) (fun y => ?_) (fun y => ?_) hX a6
    · rw [(qM6_80 y).1, hXx, hm.1 80 (by decide) (by decide)]
    · rw [(qM6_80 y).2, hXx, hm.1 81 (by decide) (by decide)]
