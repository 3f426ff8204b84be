/-! ===== RULES as the readers leave them are RULES as the engine wants them ===== -/
variable {N : Int}
theorem vOk_E {a b : Int} (h : vE True a b) (hN : N = 1048577 ∨ a < 1099511627776 + N) (hM : N ≤ 1048577) : a = b ∧ (vOk N) b := by
  obtain ⟨e, v⟩ := h trivial
  refine ⟨e, ?_⟩
  unfold vNm at v
  unfold vOk
  rcases v with v | v
  · exact Or.inl v
  · exact Or.inr ⟨v.1, by omega, hM⟩
theorem gVal_of {kn G k q x : Int} {c m : rHp} (hN : N = 1048577 ∨ ∀ h k, c 46 h k < 1099511627776 + N) (hM : N ≤ 1048577) (h : gVl True kn G k x c m) (hk : m 79 0 q = kn) : gVal c m G k q x ∧ (cOk N) m x := by
  rcases h with ⟨a1, a2, a3⟩ | ⟨a1, a2, a3, a4, a5⟩
  · obtain ⟨e1, e2⟩ := vOk_E a3 (hN.imp id (fun w => w _ _)) hM
    exact ⟨Or.inl ⟨a1, by omega, e1⟩, fun _ => e2⟩
  · exact ⟨Or.inr ⟨a1, a2, a3, a4, by rw [hk]; exact a5⟩, fun z => absurd a2 z⟩
theorem gAt_of {kind kn kn_q G q : Int} {c m : rHp} (hk : kind = 1 ∨ kind = 2) (h : qEc True kind kn kn_q G q c m) (hl : gLo kn G q c m) (h13 : m 78 0 q < m 15 0 13) : gAt c m G q := by
  obtain ⟨a1, a2, a3, a4, a5, a6, a7, ⟨a8, a9, a10, a11⟩, a12⟩ := h
  refine ⟨a3, ⟨a4, h13⟩, a6, ⟨by omega, a7.2⟩, fun k k0 k1 => ?_, ⟨a12.1, a12.2.1⟩, by rw [a2]; exact a12.2.2⟩
  unfold gArg
  rw [a2]
  rcases a8 k k0 k1 with ⟨b1, b2, b3⟩ | ⟨b1, b2, b3⟩ | ⟨b1, b2⟩
  · exact Or.inl ⟨b1, b2, (b3 trivial).1⟩
  · rcases b3 with ⟨d1, d2, d3⟩ | ⟨d0, d1, d2, d3, i, d4, d5, d6, d7⟩ | ⟨d0, d1, d2, d3, d4⟩ | ⟨d0, d1, d2⟩
    · exact Or.inr (Or.inl ⟨d1, b1, d2, by rw [d2]; exact b2, by rw [d2]; exact d3⟩)
    · exact Or.inr (Or.inr (Or.inl ⟨d1, b1, d2, by rw [d2]; exact b2, by rw [d2]; exact d3, i, d4, d5, d6, by rw [d2]; exact d7⟩))
    · exact Or.inr (Or.inr (Or.inr (Or.inl ⟨d1, b1, d2, by rw [d2]; exact b2, by rw [d2]; exact d3, by rw [d2]; exact d4⟩)))
    · exact absurd (hl (by omega) k k0 k1 b1) d2
  · exact Or.inr (Or.inr (Or.inr (Or.inr ⟨b1, by omega, by omega⟩)))
theorem wS_of {r R n : Int} {kb : Int → Int} {c m : rHp} (hN : N = 1048577 ∨ ∀ h k, c 46 h k < 1099511627776 + N) (hM : N ≤ 1048577) (h7 : c 6 0 7 = R) (h2 : c 9 R 2 = n) (h73 : m 73 0 r = n) (hn : 0 ≤ n ∧ n ≤ 8) (hk : ∀ g, 0 ≤ g → g ≤ n → qKr (kb g)) (h : gG3 True r R n kb c m) (h13 : m 15 0 14 = m 15 0 13) : (wS N) r R n kb c m := by
  obtain ⟨a, a3⟩ := h
  refine ⟨h7, h2, h73, hn, a3, fun g g0 g1 => gGo_kd (a g g0 g1).1, fun g g0 g1 => (a g g0 g1).1.1.symm, fun g v g0 g1 hv hb => ?_, fun g g0 g1 z => (a g g0 g1).2.2 z, fun g g0 g1 z => ?_, fun g v g0 g1 z hv hb => ?_, fun g k g0 g1 z k0 k1 => ?_, fun g v g0 g1 z z2 hv hb => ?_, fun g g0 g1 z z2 => ?_, fun g g0 g1 z => ?_⟩
  · rcases (a g g0 g1).1.2 with ⟨_, b⟩ | ⟨_, b⟩ | ⟨b1, b⟩
    · exact b.2.2.2.2.2.2.2.1.2.1 v hv hb
    · rw [b]; exact hb
    · rw [b]
      by_cases e : v = m 81 0 (4 * (g + 8 * r))
      · rw [e]; exact (qSt_all (hk g g0 (by omega)) b1.2.2.2.2.2.2.1).2.2.1
      · rw [qBt_other (hk g g0 (by omega)) b1.2.2.2.2.2.2.1 hv e]; exact hb
  · rcases (a g g0 g1).1.2 with ⟨b0, b⟩ | ⟨b, _⟩ | ⟨b, _⟩
    · exact gAt_of b0 b (a g g0 g1).2.1 (by rw [← h13]; exact b.2.2.2.2.1)
    · have := b.2.1
      omega
    · have := b.2.1
      omega
  · rcases (a g g0 g1).1.2 with ⟨b0, b⟩ | ⟨b, _⟩ | ⟨b, _⟩
    · have kd : c 10 (9 * R + (g + 1)) 4 = 1 := by have := b.1; omega
      exact ((b.2.2.2.2.2.2.2.1.2.2.1 kd).1 v hv hb).imp id (fun ⟨j, j0, j1, j2, j3, j4, j5⟩ => ⟨j, j0, j1, j2, j5⟩)
    · have := b.2.1
      omega
    · have := b.2.1
      omega
  · rcases (a g g0 g1).1.2 with ⟨b0, b⟩ | ⟨b, _⟩ | ⟨b, _⟩
    · have kd : c 10 (9 * R + (g + 1)) 4 = 2 := by have := b.1; omega
      have o := b.2.2.2.2.2.2.2.1.1 k k0 k1
      unfold qAo at o
      rcases o with o | ⟨_, _, o⟩ | o
      · omega
      · rcases o with o | o | o | o <;> omega
      · omega
    · have := b.2.1
      omega
    · have := b.2.1
      omega
  · rcases (a g g0 g1).1.2 with ⟨b0, b⟩ | ⟨_, b⟩ | ⟨b, _⟩
    · have kd : c 10 (9 * R + (g + 1)) 4 = 2 := by have := b.1; omega
      have e := b.2.2.2.2.2.2.2.1.2.2.2 kd
      rw [e] at hb
      exact hb
    · rw [b] at hb; exact hb
    · have := b.2.1
      omega
  · rcases (a g g0 g1).1.2 with ⟨b0, b⟩ | ⟨b, _⟩ | ⟨b, _⟩
    · have := b.1
      omega
    · have k := (a g g0 g1).1.1
      obtain ⟨x1, x2⟩ := gVal_of hN hM b.2.2.2.1 k
      obtain ⟨y1, y2⟩ := gVal_of hN hM b.2.2.2.2 k
      exact ⟨x1, y1, x2, y2⟩
    · have := b.2.1
      omega
  · rcases (a g g0 g1).1.2 with ⟨b0, b⟩ | ⟨b, _⟩ | ⟨b, b_q⟩
    · have := b.1
      omega
    · have := b.2.2.1
      omega
    · have k := (a g g0 g1).1.1
      obtain ⟨x1, x2⟩ := gVal_of hN hM b.2.2.2.1 k
      obtain ⟨y1, y2⟩ := gVal_of hN hM b.2.2.2.2.1 k
      refine ⟨⟨x1, y1, x2, y2⟩, b.2.2.2.2.2.1, b.2.2.2.2.2.2.1, b.2.2.2.2.2.2.2, fun v hv hb => ?_⟩
      rw [b_q] at hb
      by_cases e : v = m 81 0 (4 * (g + 8 * r))
      · exact Or.inr e
      · rw [qBt_other (hk g g0 (by omega)) b.2.2.2.2.2.2.1 hv e] at hb
        exact Or.inl hb
theorem gRu_of {r R : Int} {c m : rHp} (hN : N = 1048577 ∨ ∀ h k, c 46 h k < 1099511627776 + N) (hM : N ≤ 1048577) (h : gR2 True r R c (rUp m 15 0 14 (m 15 0 13))) : (gRu N) r R c m := by
  obtain ⟨n, kb, a1, a2, a3, a4, a7, a5, b1, b2, b3, b4, b5, b6, b7, b8, b9⟩ := h
  have g : ∀ K : Nat, K ≠ 15 → rUp m 15 0 14 (m 15 0 13) K = m K := fun K z => rUp_grp z
  have e14 : rUp m 15 0 14 (m 15 0 13) 15 0 14 = m 15 0 13 := rUp_at
  have e13 : rUp m 15 0 14 (m 15 0 13) 15 0 13 = m 15 0 13 := rUp_ne (by decide)
  have n73 : m 73 0 r = n := by rw [← g 73 (by decide)]; exact a2
  rw [g 69 (by decide), g 70 (by decide), g 71 (by decide), g 72 (by decide), g 76 (by decide)] at *
  rw [g 66 (by decide)] at b3
  rw [e14] at b2
  refine ⟨kb, fun c_q x9 x10 x43 x44 x46 x7 => ?_, a4, ?_, b5, fun z => ?_⟩
  · rw [n73]
    have w : (wS N) r R n kb c_q (rUp m 15 0 14 (m 15 0 13)) := by
      refine wS_of (hN.imp id (fun w h k => by rw [x46]; exact w h k)) hM x7 (by rw [x9]; exact a1) (by rw [g 73 (by decide)]; exact n73) a3 a7 ?_ (by rw [e14, e13])
      obtain ⟨d1, d2⟩ := a5
      refine ⟨fun q q0 q1 => ?_, by rw [x9]; exact d2⟩
      obtain ⟨f1, f2, f3⟩ := d1 q q0 q1
      refine ⟨gGo_to f1 (fun j _ => by rw [x10]) (fun K z => by
        rcases z with rfl | rfl | rfl
        · rw [x43]
        · rw [x44]
        · rw [x46]) (fun _ _ => rfl) (fun _ _ _ _ _ => rfl) (Int.le_refl _) (fun _ _ => rfl), gLo_to f2 f1 (fun j _ => by rw [x10]) rfl (fun _ _ _ _ _ => rfl), by rw [x10]; exact f3⟩
    exact wS_re w ⟨rfl, rfl, rfl, rfl, rfl⟩ x7 ⟨fun K z1 z2 => (g K (by omega)).symm, e13.symm⟩
  · rw [n73]
    refine ⟨b1, b2, b3, b4, fun k k0 k1 => ?_⟩
    rcases b7 k k0 k1 with ⟨x1, x2, x3⟩ | x | ⟨x1, x2, x3, x4⟩
    · obtain ⟨e1, e2⟩ := vOk_E x3 (hN.imp id (fun w => w _ _)) hM
      exact Or.inl ⟨x1, by omega, by omega, e1, e2⟩
    · exact Or.inr (Or.inl x)
    · exact Or.inr (Or.inr ⟨x1, x2, x3⟩)
  · rw [n73]
    obtain ⟨k, k0, k1, k2⟩ := b9 (by omega)
    have kk : k = c 10 (9 * R) 13 := by
      rcases b7 k k0 k1 with ⟨x1, x2, x3⟩ | x | ⟨x1, x2, x3, x4⟩
      · omega
      · omega
      · exact x4
    refine ⟨⟨by omega, b6.2⟩, b5, fun w => b8 (by omega), by omega, fun j j0 j1 => ?_⟩
    rcases b7 j j0 j1 with ⟨x1, x2, x3⟩ | x | ⟨x1, x2, x3, x4⟩
    · exact ⟨fun w => by omega, fun w => by rw [← kk] at w; rw [w] at x1; omega⟩
    · exact ⟨fun w => by omega, fun w => by rw [← kk] at w; rw [w] at x; omega⟩
    · exact ⟨fun _ => x4, fun _ => x2⟩
/-- what the readers keep is what run wants -/
theorem yS_of {B : Int} {c m : rHp} (h : Rel B c m) (hB : B ≤ 10239) (hN : ∀ h k, c 46 h k < 1099511627776 + c 3 0 1) (hy : yU c m) (h66 : ∀ p, 0 ≤ p → p < m 15 0 13 → m 66 0 p ≤ 4) : yS (m 15 0 8) c m := by
  obtain ⟨r1, r2, r3, r4, r5, r6, r7, r8⟩ := h
  obtain ⟨y1, y2, y3⟩ := hy
  have e14 : rUp m 15 0 14 (m 15 0 13) 15 0 14 = m 15 0 13 := rUp_at
  have g : ∀ K : Nat, K ≠ 15 → rUp m 15 0 14 (m 15 0 13) K = m K := fun K z => rUp_grp z
  have P := r5
  unfold qP at P
  rw [e14] at P
  have s2 : sN c (rUp m 15 0 14 (m 15 0 13)) := by
    unfold sN at y2 ⊢
    rw [rUp_ne (by decide), rUp_ne (by decide), g 61 (by decide), g 62 (by decide), g 63 (by decide)]
    exact y2
  have m3 : qNm (rUp m 15 0 14 (m 15 0 13)) := by
    unfold qNm at r3 ⊢
    rw [rUp_ne (by decide), rUp_ne (by decide), g 61 (by decide), g 62 (by decide), g 63 (by decide)]
    exact r3
  refine ⟨⟨P.1, P.2.1, P.2.2.1⟩, ⟨r6.1, by omega⟩, fun r r0 r1 => gRu_of (Or.inr (fun h k => by rw [← y2.1]; exact hN h k)) (by have := y2.1; omega) (y3 r r0 r1), ⟨r7.1, by omega, fun f f0 f1 => ?_⟩, h66⟩
  · obtain ⟨a1, ⟨a2, a3, a4⟩, a5, a6⟩ := r8 f f0 (by omega)
    rw [e14] at a3
    rw [g 66 (by decide), g 67 (by decide)] at a4 a5 a6
    rw [g 67 (by decide)] at a1 a2 a3
    rw [g 68 (by decide)] at a5 a6
    refine ⟨a1, ⟨a2, a3⟩, fun k k0 k1 => ?_⟩
    rw [show k + 4 * f = 4 * f + k by omega]
    by_cases z : k < m 66 0 (m 67 0 f)
    · have v := a5 k k0 z
      rw [show k + 4 * f = 4 * f + k by omega] at v
      have e := vR_same s2 m3 v
      refine ⟨e, ?_, fun w => by omega⟩
      rcases v with v | ⟨i, i_q, v1, v2, v3, v4, v5, v6, v7⟩
      · exact Or.inl ⟨by omega, by omega⟩
      · refine Or.inr ⟨by omega, ?_⟩
        rw [rUp_ne (by decide)] at v6
        have := y2.1
        exact ⟨by omega, by omega⟩
    · obtain ⟨z1, z2⟩ := a6 k k0 (by omega) k1
      rw [show k + 4 * f = 4 * f + k by omega] at z1
      rw [z1, z2]
      exact ⟨rfl, Or.inl ⟨by decide, by decide⟩, fun _ => rfl⟩
