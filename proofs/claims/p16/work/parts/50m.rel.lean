/-! ===== what holds between both while GOALS are gone through ===== -/
variable {N : Int}
/-- all but what a WAY changes -/
noncomputable def eC (c c_q : rHp) : Prop := (∀ K, K ≠ 37 → K ≠ 38 → K ≠ 6 → c_q K = c K) ∧ ∀ j, j ≠ 0 → j ≠ 13 → c_q 6 0 j = c 6 0 j
noncomputable def eM (m m_q : rHp) : Prop := (∀ K, K ≠ 103 → K ≠ 104 → K ≠ 15 → m_q K = m K) ∧ ∀ j, j ≠ 72 → j ≠ 77 → m_q 15 0 j = m 15 0 j
theorem eC_rfl {c : rHp} : eC c c := ⟨fun _ _ _ _ => rfl, fun _ _ _ => rfl⟩
theorem eM_rfl {m : rHp} : eM m m := ⟨fun _ _ _ _ => rfl, fun _ _ _ => rfl⟩
theorem eC_tr {c c1 c2 : rHp} (h : eC c c1) (h2 : eC c1 c2) : eC c c2 := ⟨fun K a b d => (h2.1 K a b d).trans (h.1 K a b d), fun j a b => (h2.2 j a b).trans (h.2 j a b)⟩
theorem eM_tr {m m1 m2 : rHp} (h : eM m m1) (h2 : eM m1 m2) : eM m m2 := ⟨fun K a b d => (h2.1 K a b d).trans (h.1 K a b d), fun j a b => (h2.2 j a b).trans (h.2 j a b)⟩
theorem eC_up37 {c : rHp} {j v : Int} : eC c (rUp c 37 0 j v) := ⟨fun K a _ _ => rUp_grp a, fun _ _ _ => rUp_ne (fun z => absurd z.1 (by decide))⟩
theorem eC_up38 {c : rHp} {j v : Int} : eC c (rUp c 38 0 j v) := ⟨fun K _ a _ => rUp_grp a, fun _ _ _ => rUp_ne (fun z => absurd z.1 (by decide))⟩
theorem eC_up0 {c : rHp} {v : Int} : eC c (rUp c 6 0 0 v) := ⟨fun K _ _ a => rUp_grp a, fun _ a _ => rUp_ne (fun z => a z.2.2)⟩
theorem eC_up13 {c : rHp} {v : Int} : eC c (rUp c 6 0 13 v) := ⟨fun K _ _ a => rUp_grp a, fun _ _ a => rUp_ne (fun z => a z.2.2)⟩
theorem eM_up103 {m : rHp} {j v : Int} : eM m (rUp m 103 0 j v) := ⟨fun K a _ _ => rUp_grp a, fun _ _ _ => rUp_ne (fun z => absurd z.1 (by decide))⟩
theorem eM_up104 {m : rHp} {j v : Int} : eM m (rUp m 104 0 j v) := ⟨fun K _ a _ => rUp_grp a, fun _ _ _ => rUp_ne (fun z => absurd z.1 (by decide))⟩
theorem eM_up72 {m : rHp} {v : Int} : eM m (rUp m 15 0 72 v) := ⟨fun K _ _ a => rUp_grp a, fun _ a _ => rUp_ne (fun z => a z.2.2)⟩
/-- the RULE, as both keep it, stands -/
noncomputable def sC (c c_q : rHp) : Prop := c_q 9 = c 9 ∧ c_q 10 = c 10 ∧ c_q 43 = c 43 ∧ c_q 44 = c 44 ∧ c_q 46 = c 46 ∧ ∀ j, 6 ≤ j → j ≤ 12 → c_q 6 0 j = c 6 0 j
noncomputable def sM (m m_q : rHp) : Prop := (∀ K : Nat, 59 ≤ K → K ≤ 92 → m_q K = m K) ∧ m_q 15 0 13 = m 15 0 13 ∧ m_q 15 0 76 = m 15 0 76 ∧ ∀ j, 81 ≤ j → j ≤ 84 → m_q 15 0 j = m 15 0 j
theorem sC_tr {c c1 c2 : rHp} (h : sC c c1) (h2 : sC c1 c2) : sC c c2 := ⟨h2.1.trans h.1, h2.2.1.trans h.2.1, h2.2.2.1.trans h.2.2.1, h2.2.2.2.1.trans h.2.2.2.1, h2.2.2.2.2.1.trans h.2.2.2.2.1, fun j a b => (h2.2.2.2.2.2 j a b).trans (h.2.2.2.2.2 j a b)⟩
theorem sM_tr {m m1 m2 : rHp} (h : sM m m1) (h2 : sM m1 m2) : sM m m2 := ⟨fun K a b => (h2.1 K a b).trans (h.1 K a b), h2.2.1.trans h.2.1, h2.2.2.1.trans h.2.2.1, fun j a b => (h2.2.2.2 j a b).trans (h.2.2.2 j a b)⟩
theorem eC_sC {c c_q : rHp} (h : eC c c_q) : sC c c_q := ⟨h.1 9 (by decide) (by decide) (by decide), h.1 10 (by decide) (by decide) (by decide), h.1 43 (by decide) (by decide) (by decide), h.1 44 (by decide) (by decide) (by decide), h.1 46 (by decide) (by decide) (by decide), fun j a b => h.2 j (by omega) (by omega)⟩
theorem eM_sM {m m_q : rHp} (h : eM m m_q) : sM m m_q := ⟨fun K a b => h.1 K (by omega) (by omega) (by omega), h.2 13 (by decide) (by decide), h.2 76 (by decide) (by decide), fun j a b => h.2 j (by omega) (by omega)⟩
/-- a CONSTANT is a value -/
noncomputable def cOk (N : Int) (m : rHp) (x : Int) : Prop := m 80 0 x ≠ 1 → (vOk N) (m 81 0 x)
/-- the RULE R of the one side, r of the other; kb g: the VARIABLES KNOWN ahead of GOAL g -/
noncomputable def wS (N : Int) (r R n : Int) (kb : Int → Int) (c m : rHp) : Prop := (c 6 0 7 = R) ∧ (c 9 R 2 = n) ∧ (m 73 0 r = n) ∧ (0 ≤ n ∧ n ≤ 8) ∧ (c 9 R 3 = cn (fun h => decide (m 77 0 (h + 8 * r) = 0)) n) ∧ (∀ g, 0 ≤ g → g < n → c 10 (9 * R + (g + 1)) 4 = m 77 0 (g + 8 * r) + 1 ∧ 0 ≤ m 77 0 (g + 8 * r) ∧ m 77 0 (g + 8 * r) ≤ 7) ∧ (∀ g, 0 ≤ g → g < n → kb g = m 79 0 (g + 8 * r)) ∧ (∀ g v, 0 ≤ g → g < n → qVr v → qBt (kb g) v = 1 → qBt (kb (g + 1)) v = 1) ∧ (∀ g, 0 ≤ g → g < n → m 77 0 (g + 8 * r) = 0 → c 10 (9 * R + (g + 1)) 10 = cn (fun h => decide (m 77 0 (h + 8 * r) = 0)) g) ∧ (∀ g, 0 ≤ g → g < n → m 77 0 (g + 8 * r) ≤ 1 → gAt c m (9 * R + (g + 1)) (g + 8 * r)) ∧ (∀ g v, 0 ≤ g → g < n → m 77 0 (g + 8 * r) = 0 → qVr v → qBt (kb (g + 1)) v = 1 → qBt (kb g) v = 1 ∨ ∃ k, 0 ≤ k ∧ k < c 10 (9 * R + (g + 1)) 5 ∧ m 80 0 (k + 4 * (g + 8 * r)) = 1 ∧ m 81 0 (k + 4 * (g + 8 * r)) = v) ∧ (∀ g k, 0 ≤ g → g < n → m 77 0 (g + 8 * r) = 1 → 0 ≤ k → k < c 10 (9 * R + (g + 1)) 5 → c 43 (9 * R + (g + 1)) k ≠ 2) ∧ (∀ g v, 0 ≤ g → g < n → m 77 0 (g + 8 * r) ≠ 0 → m 77 0 (g + 8 * r) ≤ 4 → qVr v → qBt (kb (g + 1)) v = 1 → qBt (kb g) v = 1) ∧ (∀ g, 0 ≤ g → g < n → 2 ≤ m 77 0 (g + 8 * r) → m 77 0 (g + 8 * r) ≤ 4 → gVal c m (9 * R + (g + 1)) 0 (g + 8 * r) (4 * (g + 8 * r)) ∧ gVal c m (9 * R + (g + 1)) 1 (g + 8 * r) (4 * (g + 8 * r) + 1) ∧ (cOk N) m (4 * (g + 8 * r)) ∧ (cOk N) m (4 * (g + 8 * r) + 1)) ∧ (∀ g, 0 ≤ g → g < n → 5 ≤ m 77 0 (g + 8 * r) → (gVal c m (9 * R + (g + 1)) 0 (g + 8 * r) (4 * (g + 8 * r) + 1) ∧ gVal c m (9 * R + (g + 1)) 1 (g + 8 * r) (4 * (g + 8 * r) + 2) ∧ (cOk N) m (4 * (g + 8 * r) + 1) ∧ (cOk N) m (4 * (g + 8 * r) + 2)) ∧ c 10 (9 * R + (g + 1)) 11 = m 81 0 (4 * (g + 8 * r)) ∧ qVr (m 81 0 (4 * (g + 8 * r))) ∧ qBt (kb g) (m 81 0 (4 * (g + 8 * r))) ≠ 1 ∧ ∀ v, qVr v → qBt (kb (g + 1)) v = 1 → qBt (kb g) v = 1 ∨ v = m 81 0 (4 * (g + 8 * r)))
theorem wS.rl {r R n : Int} {kb : Int → Int} {c m : rHp} (h : (wS N) r R n kb c m) : c 6 0 7 = R := h.1
theorem wS.n1 {r R n : Int} {kb : Int → Int} {c m : rHp} (h : (wS N) r R n kb c m) : c 9 R 2 = n := h.2.1
theorem wS.n2 {r R n : Int} {kb : Int → Int} {c m : rHp} (h : (wS N) r R n kb c m) : m 73 0 r = n := h.2.2.1
theorem wS.n8 {r R n : Int} {kb : Int → Int} {c m : rHp} (h : (wS N) r R n kb c m) : 0 ≤ n ∧ n ≤ 8 := h.2.2.2.1
theorem wS.ac {r R n : Int} {kb : Int → Int} {c m : rHp} (h : (wS N) r R n kb c m) : c 9 R 3 = cn (fun h => decide (m 77 0 (h + 8 * r) = 0)) n := h.2.2.2.2.1
theorem wS.kd {r R n : Int} {kb : Int → Int} {c m : rHp} (h : (wS N) r R n kb c m) : ∀ g, 0 ≤ g → g < n → c 10 (9 * R + (g + 1)) 4 = m 77 0 (g + 8 * r) + 1 ∧ 0 ≤ m 77 0 (g + 8 * r) ∧ m 77 0 (g + 8 * r) ≤ 7 := h.2.2.2.2.2.1
theorem wS.kn {r R n : Int} {kb : Int → Int} {c m : rHp} (h : (wS N) r R n kb c m) : ∀ g, 0 ≤ g → g < n → kb g = m 79 0 (g + 8 * r) := h.2.2.2.2.2.2.1
theorem wS.up {r R n : Int} {kb : Int → Int} {c m : rHp} (h : (wS N) r R n kb c m) : ∀ g v, 0 ≤ g → g < n → qVr v → qBt (kb g) v = 1 → qBt (kb (g + 1)) v = 1 := h.2.2.2.2.2.2.2.1
theorem wS.od {r R n : Int} {kb : Int → Int} {c m : rHp} (h : (wS N) r R n kb c m) : ∀ g, 0 ≤ g → g < n → m 77 0 (g + 8 * r) = 0 → c 10 (9 * R + (g + 1)) 10 = cn (fun h => decide (m 77 0 (h + 8 * r) = 0)) g := h.2.2.2.2.2.2.2.2.1
theorem wS.at0 {r R n : Int} {kb : Int → Int} {c m : rHp} (h : (wS N) r R n kb c m) : ∀ g, 0 ≤ g → g < n → m 77 0 (g + 8 * r) ≤ 1 → gAt c m (9 * R + (g + 1)) (g + 8 * r) := h.2.2.2.2.2.2.2.2.2.1
theorem wS.at1 {r R n : Int} {kb : Int → Int} {c m : rHp} (h : (wS N) r R n kb c m) : ∀ g v, 0 ≤ g → g < n → m 77 0 (g + 8 * r) = 0 → qVr v → qBt (kb (g + 1)) v = 1 → qBt (kb g) v = 1 ∨ ∃ k, 0 ≤ k ∧ k < c 10 (9 * R + (g + 1)) 5 ∧ m 80 0 (k + 4 * (g + 8 * r)) = 1 ∧ m 81 0 (k + 4 * (g + 8 * r)) = v := h.2.2.2.2.2.2.2.2.2.2.1
theorem wS.no1 {r R n : Int} {kb : Int → Int} {c m : rHp} (h : (wS N) r R n kb c m) : ∀ g k, 0 ≤ g → g < n → m 77 0 (g + 8 * r) = 1 → 0 ≤ k → k < c 10 (9 * R + (g + 1)) 5 → c 43 (9 * R + (g + 1)) k ≠ 2 := h.2.2.2.2.2.2.2.2.2.2.2.1
theorem wS.sm {r R n : Int} {kb : Int → Int} {c m : rHp} (h : (wS N) r R n kb c m) : ∀ g v, 0 ≤ g → g < n → m 77 0 (g + 8 * r) ≠ 0 → m 77 0 (g + 8 * r) ≤ 4 → qVr v → qBt (kb (g + 1)) v = 1 → qBt (kb g) v = 1 := h.2.2.2.2.2.2.2.2.2.2.2.2.1
theorem wS.cp {r R n : Int} {kb : Int → Int} {c m : rHp} (h : (wS N) r R n kb c m) : ∀ g, 0 ≤ g → g < n → 2 ≤ m 77 0 (g + 8 * r) → m 77 0 (g + 8 * r) ≤ 4 → gVal c m (9 * R + (g + 1)) 0 (g + 8 * r) (4 * (g + 8 * r)) ∧ gVal c m (9 * R + (g + 1)) 1 (g + 8 * r) (4 * (g + 8 * r) + 1) ∧ (cOk N) m (4 * (g + 8 * r)) ∧ (cOk N) m (4 * (g + 8 * r) + 1) := h.2.2.2.2.2.2.2.2.2.2.2.2.2.1
theorem wS.rc {r R n : Int} {kb : Int → Int} {c m : rHp} (h : (wS N) r R n kb c m) : ∀ g, 0 ≤ g → g < n → 5 ≤ m 77 0 (g + 8 * r) → (gVal c m (9 * R + (g + 1)) 0 (g + 8 * r) (4 * (g + 8 * r) + 1) ∧ gVal c m (9 * R + (g + 1)) 1 (g + 8 * r) (4 * (g + 8 * r) + 2) ∧ (cOk N) m (4 * (g + 8 * r) + 1) ∧ (cOk N) m (4 * (g + 8 * r) + 2)) ∧ c 10 (9 * R + (g + 1)) 11 = m 81 0 (4 * (g + 8 * r)) ∧ qVr (m 81 0 (4 * (g + 8 * r))) ∧ qBt (kb g) (m 81 0 (4 * (g + 8 * r))) ≠ 1 ∧ ∀ v, qVr v → qBt (kb (g + 1)) v = 1 → qBt (kb g) v = 1 ∨ v = m 81 0 (4 * (g + 8 * r)) := h.2.2.2.2.2.2.2.2.2.2.2.2.2.2
noncomputable def s5 (c c_q : rHp) : Prop := c_q 9 = c 9 ∧ c_q 10 = c 10 ∧ c_q 43 = c 43 ∧ c_q 44 = c 44 ∧ c_q 46 = c 46
noncomputable def s9 (m m_q : rHp) : Prop := (∀ K : Nat, 59 ≤ K → K ≤ 91 → m_q K = m K) ∧ m_q 15 0 13 = m 15 0 13
theorem sC_5 {c c_q : rHp} (h : sC c c_q) : s5 c c_q := ⟨h.1, h.2.1, h.2.2.1, h.2.2.2.1, h.2.2.2.2.1⟩
theorem sM_9 {m m_q : rHp} (h : sM m m_q) : s9 m m_q := ⟨fun K a b => h.1 K a (by omega), h.2.1⟩
theorem gAt_re {c m c_q m_q : rHp} {G q : Int} (hc : s5 c c_q) (hm : s9 m m_q) (h : gAt c m G q) : gAt c_q m_q G q := by
  obtain ⟨e9, e10, e43, e44, e46⟩ := hc
  obtain ⟨f, f13⟩ := hm
  unfold gAt gArg at h ⊢
  rw [e10, e43, e44, e46, f 66 (by decide) (by decide), f 78 (by decide) (by decide), f 79 (by decide) (by decide), f 80 (by decide) (by decide), f 81 (by decide) (by decide), f13]
  exact h
theorem gVal_re {c m c_q m_q : rHp} {G k q x : Int} (hc : s5 c c_q) (hm : s9 m m_q) (h : gVal c m G k q x) : gVal c_q m_q G k q x := by
  obtain ⟨e9, e10, e43, e44, e46⟩ := hc
  obtain ⟨f, f13⟩ := hm
  unfold gVal at h ⊢
  rw [e43, e44, e46, f 79 (by decide) (by decide), f 80 (by decide) (by decide), f 81 (by decide) (by decide)]
  exact h
theorem cOk_re {m m_q : rHp} {x : Int} (hm : s9 m m_q) (h : (cOk N) m x) : (cOk N) m_q x := by
  unfold cOk at h ⊢
  rw [hm.1 80 (by decide) (by decide), hm.1 81 (by decide) (by decide)]
  exact h
theorem gAt_up {c m c_q m_q : rHp} {G q : Int} (hc : sC c c_q) (hm : sM m m_q) (h : gAt c m G q) : gAt c_q m_q G q := gAt_re (sC_5 hc) (sM_9 hm) h
theorem wS_re {r R n : Int} {kb : Int → Int} {c m c_q m_q : rHp} (h : (wS N) r R n kb c m) (hc : s5 c c_q) (e7 : c_q 6 0 7 = R) (hm : s9 m m_q) : (wS N) r R n kb c_q m_q := by
  have e9 := hc.1
  have e10 := hc.2.1
  have e43 := hc.2.2.1
  have k73 := hm.1 73 (by decide) (by decide)
  have k77 := hm.1 77 (by decide) (by decide)
  have k79 := hm.1 79 (by decide) (by decide)
  have k80 := hm.1 80 (by decide) (by decide)
  have k81 := hm.1 81 (by decide) (by decide)
  refine ⟨e7, ?_, ?_, h.n8, ?_, ?_, ?_, h.up, ?_, ?_, ?_, ?_, ?_, ?_, ?_⟩
  · rw [e9]; exact h.n1
  · rw [k73]; exact h.n2
  · rw [e9, k77]; exact h.ac
  · rw [e10, k77]; exact h.kd
  · rw [k79]; exact h.kn
  · rw [e10, k77]; exact h.od
  · intro g g0 g1 g2
    rw [k77] at g2
    exact gAt_re hc hm (h.at0 g g0 g1 g2)
  · rw [e10, k77, k80, k81]; exact h.at1
  · rw [e10, e43, k77]; exact h.no1
  · rw [k77]; exact h.sm
  · intro g g0 g1 g2 g3
    rw [k77] at g2 g3
    obtain ⟨a, b, d, e⟩ := h.cp g g0 g1 g2 g3
    exact ⟨gVal_re hc hm a, gVal_re hc hm b, cOk_re hm d, cOk_re hm e⟩
  · intro g g0 g1 g2
    rw [k77] at g2
    obtain ⟨⟨a, b, d, e⟩, x1, x2, x3, x4⟩ := h.rc g g0 g1 g2
    rw [e10, k81]
    exact ⟨⟨gVal_re hc hm a, gVal_re hc hm b, cOk_re hm d, cOk_re hm e⟩, x1, x2, x3, x4⟩
theorem wS_up {r R n : Int} {kb : Int → Int} {c m c_q m_q : rHp} (h : (wS N) r R n kb c m) (hc : sC c c_q) (hm : sM m m_q) : (wS N) r R n kb c_q m_q :=
  wS_re h (sC_5 hc) ((hc.2.2.2.2.2 7 (by decide) (by decide)).trans h.rl) (sM_9 hm)
theorem tT_fr {c m c_q m_q : rHp} (h : tT c m) (e : ∀ K : Nat, K = 4 ∨ K = 27 ∨ K = 28 ∨ (47 ≤ K ∧ K ≤ 55) → c_q K = c K) (f : ∀ K : Nat, K = 93 ∨ K = 96 ∨ K = 99 ∨ K = 100 → m_q K = m K) (f71 : m_q 15 0 71 = m 15 0 71) (f13 : m_q 15 0 13 = m 15 0 13) : tT c_q m_q := by
  have p1 : chP c_q = chP c := by funext t; unfold chP; rw [e 28 (by decide)]
  have p2 : chA c_q = chA c := by funext t; unfold chA; rw [e 28 (by decide), e 27 (by decide)]
  have p3 : chW c_q = chW c := by funext t; unfold chW; rw [e 28 (by decide), e 27 (by decide)]
  have p4 : pTp m_q = pTp m := by funext p i; unfold pTp; rw [f 93 (by decide), f71]
  unfold tT tChn cH cM at h ⊢
  rw [p1, p2, p3, p4, e 4 (by decide), e 28 (by decide), e 27 (by decide), e 47 (by decide), e 48 (by decide), e 49 (by decide), e 50 (by decide), e 51 (by decide), e 52 (by decide), e 53 (by decide), e 54 (by decide), e 55 (by decide), f 93 (by decide), f 96 (by decide), f 99 (by decide), f 100 (by decide), f71, f13]
  exact h
theorem tT_loc {c m c_q m_q : rHp} (h : tT c m) (hc : eC c c_q) (hm : eM m m_q) : tT c_q m_q :=
  tT_fr h (fun K z => hc.1 K (by omega) (by omega) (by omega)) (fun K z => hm.1 K (by omega) (by omega) (by omega)) (hm.2 71 (by decide) (by decide)) (hm.2 13 (by decide) (by decide))
/-- at GOAL g: what both hold. J, Q: what stands beside it -/
noncomputable def wR (N : Int) (J : rHp → Prop) (Q : rHp → rHp → Prop) (r R n : Int) (kb : Int → Int) (g : Int) (c m : rHp) : Prop := (J m) ∧ (Q c m) ∧ (tT c m) ∧ (∀ t k, 0 ≤ t → t < m 15 0 71 → 0 ≤ k → k < 4 → (vOk N) (m 99 0 (k + 4 * t))) ∧ ((wS N) r R n kb c m) ∧ (m 15 0 77 = 0) ∧ (c 6 0 0 = m 15 0 72) ∧ (0 ≤ m 15 0 72 ∧ m 15 0 72 ≤ 50000) ∧ (c 6 0 11 = m 15 0 81 ∧ 0 ≤ m 15 0 81 ∧ m 15 0 81 ≤ m 15 0 71) ∧ (∀ v, qVr v → qBt (kb g) v = 1 → c 37 0 v = m 103 0 v ∧ (vOk N) (m 103 0 v)) ∧ (∀ h, 0 ≤ h → h < g → m 77 0 (h + 8 * r) = 0 → c 38 0 (c 10 (9 * R + (h + 1)) 10) = m 104 0 h ∧ 0 ≤ m 104 0 h ∧ m 104 0 h < m 15 0 81) ∧ (c 6 0 13 = cn (fun h => decide (m 77 0 (h + 8 * r) = 0) && decide (c 6 0 12 ≤ m 104 0 h)) g) ∧ ((m 15 0 84 ≠ 0 ↔ 1 < c 6 0 10) ∧ (1 < c 6 0 10 → c 6 0 12 = m 15 0 82 ∧ m 15 0 83 = m 15 0 81 ∧ 0 ≤ c 6 0 12))
theorem wR.jm {J : rHp → Prop} {Q : rHp → rHp → Prop} {r R n : Int} {kb : Int → Int} {g : Int} {c m : rHp} (h : (wR N) J Q r R n kb g c m) : J m := h.1
theorem wR.qq {J : rHp → Prop} {Q : rHp → rHp → Prop} {r R n : Int} {kb : Int → Int} {g : Int} {c m : rHp} (h : (wR N) J Q r R n kb g c m) : Q c m := h.2.1
theorem wR.tt {J : rHp → Prop} {Q : rHp → rHp → Prop} {r R n : Int} {kb : Int → Int} {g : Int} {c m : rHp} (h : (wR N) J Q r R n kb g c m) : tT c m := h.2.2.1
theorem wR.vt {J : rHp → Prop} {Q : rHp → rHp → Prop} {r R n : Int} {kb : Int → Int} {g : Int} {c m : rHp} (h : (wR N) J Q r R n kb g c m) : ∀ t k, 0 ≤ t → t < m 15 0 71 → 0 ≤ k → k < 4 → (vOk N) (m 99 0 (k + 4 * t)) := h.2.2.2.1
theorem wR.st {J : rHp → Prop} {Q : rHp → rHp → Prop} {r R n : Int} {kb : Int → Int} {g : Int} {c m : rHp} (h : (wR N) J Q r R n kb g c m) : (wS N) r R n kb c m := h.2.2.2.2.1
theorem wR.bad {J : rHp → Prop} {Q : rHp → rHp → Prop} {r R n : Int} {kb : Int → Int} {g : Int} {c m : rHp} (h : (wR N) J Q r R n kb g c m) : m 15 0 77 = 0 := h.2.2.2.2.2.1
theorem wR.stp {J : rHp → Prop} {Q : rHp → rHp → Prop} {r R n : Int} {kb : Int → Int} {g : Int} {c m : rHp} (h : (wR N) J Q r R n kb g c m) : c 6 0 0 = m 15 0 72 := h.2.2.2.2.2.2.1
theorem wR.st0 {J : rHp → Prop} {Q : rHp → rHp → Prop} {r R n : Int} {kb : Int → Int} {g : Int} {c m : rHp} (h : (wR N) J Q r R n kb g c m) : 0 ≤ m 15 0 72 ∧ m 15 0 72 ≤ 50000 := h.2.2.2.2.2.2.2.1
theorem wR.lim {J : rHp → Prop} {Q : rHp → rHp → Prop} {r R n : Int} {kb : Int → Int} {g : Int} {c m : rHp} (h : (wR N) J Q r R n kb g c m) : c 6 0 11 = m 15 0 81 ∧ 0 ≤ m 15 0 81 ∧ m 15 0 81 ≤ m 15 0 71 := h.2.2.2.2.2.2.2.2.1
theorem wR.bnd {J : rHp → Prop} {Q : rHp → rHp → Prop} {r R n : Int} {kb : Int → Int} {g : Int} {c m : rHp} (h : (wR N) J Q r R n kb g c m) : ∀ v, qVr v → qBt (kb g) v = 1 → c 37 0 v = m 103 0 v ∧ (vOk N) (m 103 0 v) := h.2.2.2.2.2.2.2.2.2.1
theorem wR.tkn {J : rHp → Prop} {Q : rHp → rHp → Prop} {r R n : Int} {kb : Int → Int} {g : Int} {c m : rHp} (h : (wR N) J Q r R n kb g c m) : ∀ h, 0 ≤ h → h < g → m 77 0 (h + 8 * r) = 0 → c 38 0 (c 10 (9 * R + (h + 1)) 10) = m 104 0 h ∧ 0 ≤ m 104 0 h ∧ m 104 0 h < m 15 0 81 := h.2.2.2.2.2.2.2.2.2.2.1
theorem wR.fr {J : rHp → Prop} {Q : rHp → rHp → Prop} {r R n : Int} {kb : Int → Int} {g : Int} {c m : rHp} (h : (wR N) J Q r R n kb g c m) : c 6 0 13 = cn (fun h => decide (m 77 0 (h + 8 * r) = 0) && decide (c 6 0 12 ≤ m 104 0 h)) g := h.2.2.2.2.2.2.2.2.2.2.2.1
theorem wR.ask {J : rHp → Prop} {Q : rHp → rHp → Prop} {r R n : Int} {kb : Int → Int} {g : Int} {c m : rHp} (h : (wR N) J Q r R n kb g c m) : (m 15 0 84 ≠ 0 ↔ 1 < c 6 0 10) ∧ (1 < c 6 0 10 → c 6 0 12 = m 15 0 82 ∧ m 15 0 83 = m 15 0 81 ∧ 0 ≤ c 6 0 12) := h.2.2.2.2.2.2.2.2.2.2.2.2
/-- J and Q hang on nothing that a WAY changes -/
noncomputable def wJQ (J : rHp → Prop) (Q : rHp → rHp → Prop) : Prop := (∀ m m_q, J m → eM m m_q → J m_q) ∧ ∀ c c_q m m_q, Q c m → eC c c_q → eM m m_q → Q c_q m_q
theorem wR_loc {J : rHp → Prop} {Q : rHp → rHp → Prop} {r R n : Int} {kb : Int → Int} {g g_q : Int} {c m c_q m_q : rHp} (hJ : wJQ J Q) (h : (wR N) J Q r R n kb g c m) (hc : eC c c_q) (hm : eM m m_q) (bad : m_q 15 0 77 = 0) (stp : c_q 6 0 0 = m_q 15 0 72) (st0 : 0 ≤ m_q 15 0 72 ∧ m_q 15 0 72 ≤ 50000)
    (bnd : ∀ v, qVr v → qBt (kb g_q) v = 1 → c_q 37 0 v = m_q 103 0 v ∧ (vOk N) (m_q 103 0 v))
    (tkn : ∀ h, 0 ≤ h → h < g_q → m 77 0 (h + 8 * r) = 0 → c_q 38 0 (c 10 (9 * R + (h + 1)) 10) = m_q 104 0 h ∧ 0 ≤ m_q 104 0 h ∧ m_q 104 0 h < m 15 0 81)
    (fr : c_q 6 0 13 = cn (fun h => decide (m 77 0 (h + 8 * r) = 0) && decide (c 6 0 12 ≤ m_q 104 0 h)) g_q) : (wR N) J Q r R n kb g_q c_q m_q := by
  refine ⟨hJ.1 m m_q h.jm hm, hJ.2 c c_q m m_q h.qq hc hm, tT_loc h.tt hc hm, ?_, wS_up h.st (eC_sC hc) (eM_sM hm), bad, stp, st0, ?_, bnd, ?_, ?_, ?_⟩
  · rw [hm.1 99 (by decide) (by decide) (by decide), hm.2 71 (by decide) (by decide)]
    exact h.vt
  · rw [hc.2 11 (by decide) (by decide), hm.2 81 (by decide) (by decide), hm.2 71 (by decide) (by decide)]
    exact h.lim
  · rw [hm.1 77 (by decide) (by decide) (by decide), hc.1 10 (by decide) (by decide) (by decide), hm.2 81 (by decide) (by decide)]
    exact tkn
  · rw [hm.1 77 (by decide) (by decide) (by decide), hc.2 12 (by decide) (by decide)]
    exact fr
  · rw [hm.2 84 (by decide) (by decide), hm.2 83 (by decide) (by decide), hm.2 82 (by decide) (by decide), hm.2 81 (by decide) (by decide), hc.2 10 (by decide) (by decide), hc.2 12 (by decide) (by decide)]
    exact h.ask
/-- TUPLES only grow -/
noncomputable def tG (c c_q : rHp) : Prop := c 4 0 7 ≤ c_q 4 0 7 ∧ ∀ t, 0 ≤ t → t < c 4 0 7 → c_q 28 0 t = c 28 0 t ∧ ∀ k, 0 ≤ k → k < 4 → c_q 27 0 (k + 4 * t) = c 27 0 (k + 4 * t)
theorem tG_tr {c c1 c2 : rHp} (h : tG c c1) (h2 : tG c1 c2) : tG c c2 :=
  ⟨Int.le_trans h.1 h2.1, fun t t0 t1 => ⟨(h2.2 t t0 (by have := h.1; omega)).1.trans (h.2 t t0 t1).1, fun k k0 k1 => ((h2.2 t t0 (by have := h.1; omega)).2 k k0 k1).trans ((h.2 t t0 t1).2 k k0 k1)⟩⟩
theorem eC_tG {c c_q : rHp} (h : eC c c_q) : tG c c_q := by
  unfold tG
  rw [h.1 4 (by decide) (by decide) (by decide), h.1 28 (by decide) (by decide) (by decide), h.1 27 (by decide) (by decide) (by decide)]
  exact ⟨Int.le_refl _, fun _ _ _ => ⟨rfl, fun _ _ _ => rfl⟩⟩
/-- what else stands -/
noncomputable def sK (c c_q m m_q : rHp) : Prop := (∀ K : Nat, K = 1 ∨ K = 18 ∨ K = 19 ∨ K = 20 ∨ K = 40 → c_q K = c K) ∧ ∀ j, j = 17 ∨ j = 32 ∨ j = 61 ∨ j = 73 → m_q 15 0 j = m 15 0 j
theorem sK_tr {c c1 c2 m m1 m2 : rHp} (h : sK c c1 m m1) (h2 : sK c1 c2 m1 m2) : sK c c2 m m2 := ⟨fun K z => (h2.1 K z).trans (h.1 K z), fun j z => (h2.2 j z).trans (h.2 j z)⟩
theorem e_sK {c c_q m m_q : rHp} (h : eC c c_q) (h2 : eM m m_q) : sK c c_q m m_q := ⟨fun K z => h.1 K (by omega) (by omega) (by omega), fun j z => h2.2 j (by omega) (by omega)⟩
/-- what going on from GOAL g leaves -/
noncomputable def wP (N : Int) (J : rHp → Prop) (Q : rHp → rHp → Prop) (r R n : Int) (kb : Int → Int) (g : Int) (c m c_q m_q : rHp) : Prop := ((wR N) J Q r R n kb g c_q m_q) ∧ (∀ v, qVr v → qBt (kb g) v = 1 → c_q 37 0 v = c 37 0 v ∧ m_q 103 0 v = m 103 0 v) ∧ (∀ h, 0 ≤ h → h < g → m 77 0 (h + 8 * r) = 0 → m_q 104 0 h = m 104 0 h) ∧ (tG c c_q) ∧ (sC c c_q) ∧ (sM m m_q) ∧ (sK c c_q m m_q)
theorem wP.rel {J : rHp → Prop} {Q : rHp → rHp → Prop} {r R n : Int} {kb : Int → Int} {g : Int} {c m c_q m_q : rHp} (h : (wP N) J Q r R n kb g c m c_q m_q) : (wR N) J Q r R n kb g c_q m_q := h.1
theorem wP.fb {J : rHp → Prop} {Q : rHp → rHp → Prop} {r R n : Int} {kb : Int → Int} {g : Int} {c m c_q m_q : rHp} (h : (wP N) J Q r R n kb g c m c_q m_q) : ∀ v, qVr v → qBt (kb g) v = 1 → c_q 37 0 v = c 37 0 v ∧ m_q 103 0 v = m 103 0 v := h.2.1
theorem wP.ft {J : rHp → Prop} {Q : rHp → rHp → Prop} {r R n : Int} {kb : Int → Int} {g : Int} {c m c_q m_q : rHp} (h : (wP N) J Q r R n kb g c m c_q m_q) : ∀ h, 0 ≤ h → h < g → m 77 0 (h + 8 * r) = 0 → m_q 104 0 h = m 104 0 h := h.2.2.1
theorem wP.gr {J : rHp → Prop} {Q : rHp → rHp → Prop} {r R n : Int} {kb : Int → Int} {g : Int} {c m c_q m_q : rHp} (h : (wP N) J Q r R n kb g c m c_q m_q) : tG c c_q := h.2.2.2.1
theorem wP.sc {J : rHp → Prop} {Q : rHp → rHp → Prop} {r R n : Int} {kb : Int → Int} {g : Int} {c m c_q m_q : rHp} (h : (wP N) J Q r R n kb g c m c_q m_q) : sC c c_q := h.2.2.2.2.1
theorem wP.sm {J : rHp → Prop} {Q : rHp → rHp → Prop} {r R n : Int} {kb : Int → Int} {g : Int} {c m c_q m_q : rHp} (h : (wP N) J Q r R n kb g c m c_q m_q) : sM m m_q := h.2.2.2.2.2.1
theorem wP.sk {J : rHp → Prop} {Q : rHp → rHp → Prop} {r R n : Int} {kb : Int → Int} {g : Int} {c m c_q m_q : rHp} (h : (wP N) J Q r R n kb g c m c_q m_q) : sK c c_q m m_q := h.2.2.2.2.2.2
theorem wP_tr {J : rHp → Prop} {Q : rHp → rHp → Prop} {r R n : Int} {kb : Int → Int} {g : Int} {c m c1 m1 c2 m2 : rHp} (h : (wP N) J Q r R n kb g c m c1 m1) (h2 : (wP N) J Q r R n kb g c1 m1 c2 m2) : (wP N) J Q r R n kb g c m c2 m2 := by
  refine ⟨h2.rel, fun v v0 v1 => ⟨(h2.fb v v0 v1).1.trans (h.fb v v0 v1).1, (h2.fb v v0 v1).2.trans (h.fb v v0 v1).2⟩, fun x x0 x1 x2 => ?_, tG_tr h.gr h2.gr, sC_tr h.sc h2.sc, sM_tr h.sm h2.sm, sK_tr h.sk h2.sk⟩
  rw [h2.ft x x0 x1 (by rw [h.sm.1 77 (by decide) (by decide)]; exact x2)]
  exact h.ft x x0 x1 x2
/-- what the reference's next step is where a TUPLE is to be taken, the chain being at f -/
noncomputable def zTk (Z0 Z1 : Int → rHp → zR) (r g : Int) (m : rHp) (f : Int) : zR :=
  if (fn62 [r, g, f] m).2.1 ≥ 0 then
    if m 15 0 72 + 1 ≤ 50000 then Z0 (g + 1) (fn63 [g + 8 * r, (fn62 [r, g, f] m).2.1] (rUp (rUp (fn62 [r, g, f] m).2.2 15 0 72 (m 15 0 72 + 1)) 104 0 g (fn62 [r, g, f] m).2.1)).2.2
    else Z0 (g + 1) (fn63 [g + 8 * r, (fn62 [r, g, f] m).2.1] (rUp (rUp (rUp (fn62 [r, g, f] m).2.2 15 0 72 (m 15 0 72 + 1)) 15 0 77 2) 104 0 g (fn62 [r, g, f] m).2.1)).2.2
  else Z1 (g - 1) (fn62 [r, g, f] m).2.2
/-- the reference's ways: Z0 at GOAL g going on, Z1 coming back to it -/
noncomputable def zI (J : rHp → Prop) (r n : Int) (Z0 Z1 : Int → rHp → zR) : Prop := (∀ g m, m 15 0 77 ≠ 0 → Z0 g m = (0, 0, m)) ∧ (∀ g m, J m → m 15 0 77 = 0 → g ≠ n → m 77 0 (g + 8 * r) = 0 → Z0 g m = zTk Z0 Z1 r g m (m 100 0 (m 78 0 (g + 8 * r)))) ∧ (∀ g m, J m → m 15 0 77 = 0 → 0 ≤ g → m 77 0 (g + 8 * r) = 0 → Z1 g m = zTk Z0 Z1 r g m (m 96 0 (m 104 0 g))) ∧ (∀ g m, J m → m 15 0 77 = 0 → g ≠ n → m 77 0 (g + 8 * r) ≠ 0 → m 77 0 (g + 8 * r) ≤ 4 → Z0 g m = if 1 ≤ (fn64 [g + 8 * r] m).2.1 then Z0 (g + 1) (fn64 [g + 8 * r] m).2.2 else Z1 (g - 1) (fn64 [g + 8 * r] m).2.2) ∧ (∀ g m, J m → m 15 0 77 = 0 → g ≠ n → 5 ≤ m 77 0 (g + 8 * r) → Z0 g m = if 1 ≤ (fn65 [g + 8 * r] m).2.1 then Z0 (g + 1) (fn65 [g + 8 * r] m).2.2 else Z1 (g - 1) (fn65 [g + 8 * r] m).2.2) ∧ (∀ g m, J m → m 15 0 77 = 0 → 0 ≤ g → m 77 0 (g + 8 * r) ≠ 0 → Z1 g m = Z1 (g - 1) m)
theorem zI.bad0 {J : rHp → Prop} {r n : Int} {Z0 Z1 : Int → rHp → zR} (h : zI J r n Z0 Z1) : ∀ g m, m 15 0 77 ≠ 0 → Z0 g m = (0, 0, m) := h.1
theorem zI.at0 {J : rHp → Prop} {r n : Int} {Z0 Z1 : Int → rHp → zR} (h : zI J r n Z0 Z1) : ∀ g m, J m → m 15 0 77 = 0 → g ≠ n → m 77 0 (g + 8 * r) = 0 → Z0 g m = zTk Z0 Z1 r g m (m 100 0 (m 78 0 (g + 8 * r))) := h.2.1
theorem zI.at1 {J : rHp → Prop} {r n : Int} {Z0 Z1 : Int → rHp → zR} (h : zI J r n Z0 Z1) : ∀ g m, J m → m 15 0 77 = 0 → 0 ≤ g → m 77 0 (g + 8 * r) = 0 → Z1 g m = zTk Z0 Z1 r g m (m 96 0 (m 104 0 g)) := h.2.2.1
theorem zI.cp0 {J : rHp → Prop} {r n : Int} {Z0 Z1 : Int → rHp → zR} (h : zI J r n Z0 Z1) : ∀ g m, J m → m 15 0 77 = 0 → g ≠ n → m 77 0 (g + 8 * r) ≠ 0 → m 77 0 (g + 8 * r) ≤ 4 → Z0 g m = if 1 ≤ (fn64 [g + 8 * r] m).2.1 then Z0 (g + 1) (fn64 [g + 8 * r] m).2.2 else Z1 (g - 1) (fn64 [g + 8 * r] m).2.2 := h.2.2.2.1
theorem zI.rc0 {J : rHp → Prop} {r n : Int} {Z0 Z1 : Int → rHp → zR} (h : zI J r n Z0 Z1) : ∀ g m, J m → m 15 0 77 = 0 → g ≠ n → 5 ≤ m 77 0 (g + 8 * r) → Z0 g m = if 1 ≤ (fn65 [g + 8 * r] m).2.1 then Z0 (g + 1) (fn65 [g + 8 * r] m).2.2 else Z1 (g - 1) (fn65 [g + 8 * r] m).2.2 := h.2.2.2.2.1
theorem zI.bk1 {J : rHp → Prop} {r n : Int} {Z0 Z1 : Int → rHp → zR} (h : zI J r n Z0 Z1) : ∀ g m, J m → m 15 0 77 = 0 → 0 ≤ g → m 77 0 (g + 8 * r) ≠ 0 → Z1 g m = Z1 (g - 1) m := h.2.2.2.2.2
/-- F goes on from GOAL g as the reference does -/
noncomputable def wSp (N : Int) (J : rHp → Prop) (Q : rHp → rHp → Prop) (r R n : Int) (kb : Int → Int) (Z0 Z1 : Int → rHp → zR) (g : Int) (F : rHp → zR) : Prop :=
  ∀ c m, (wR N) J Q r R n kb g c m → ∃ o c_q, F c = (o, 0, c_q) ∧ ((o = 0 ∧ ∃ m_q, Z0 g m = Z1 (g - 1) m_q ∧ (wP N) J Q r R n kb g c m c_q m_q) ∨ (o = 1 ∧ ∃ m_q, Z0 g m = (0, 0, m_q) ∧ m_q 15 0 77 = 3) ∨ (o = 4 ∧ ∃ m_q, Z0 g m = (0, 0, m_q) ∧ m_q 15 0 77 = 2))
