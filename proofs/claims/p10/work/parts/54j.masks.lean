/-! ===== what masks leave ===== -/
noncomputable def maC7 (ms : Nat) : Bool := (!Nat.testBit ms (128 * 2 + 3)) && (!Nat.testBit ms (128 * 3 + 1)) && (!Nat.testBit ms (128 * 1 + 7)) && (!Nat.testBit ms (128 * 1 + 9)) && (!Nat.testBit ms (128 * 1 + 10)) && [16, 17, 19, 20, 21, 26, 40, 43, 44, 46].all (fun G => !Nat.testBit ms (2048 + G)) && maO ms 9 && maO ms 10
theorem eqC_k7 {ms : Nat} (h : maC7 ms = true) {g g_q : rHp} (hk : ∀ (G : Nat) (k j : Int), ¬ rMdP ms G j → g_q G k j = g G k j) : (∀ G, G ∈ lEC → g_q G = g G) ∧ (g_q 2 0 3 = g 2 0 3 ∧ g_q 3 0 1 = g 3 0 1 ∧ g_q 1 0 7 = g 1 0 7 ∧ g_q 1 0 9 = g 1 0 9 ∧ g_q 1 0 10 = g 1 0 10) := by
  unfold maC7 at h
  simp only [Bool.and_eq_true, Bool.not_eq_true'] at h
  obtain ⟨⟨⟨⟨⟨⟨⟨h1, h2⟩, h3⟩, h4⟩, h5⟩, h7⟩, h8⟩, h9⟩ := h
  refine ⟨fun G z => ?_, zKo (by decide) h1 hk 0, zKo (by decide) h2 hk 0, zKo (by decide) h3 hk 0, zKo (by decide) h4 hk 0, zKo (by decide) h5 hk 0⟩
  unfold lEC at z
  by_cases e9 : G = 9
  · rw [e9]; exact zKg (by decide) h8 hk
  · by_cases e10 : G = 10
    · rw [e10]; exact zKg (by decide) h9 hk
    · have z2 : G ∈ [16, 17, 19, 20, 21, 26, 40, 43, 44, 46] := by
        simp only [List.mem_cons, List.not_mem_nil, or_false] at z ⊢
        omega
      refine zKa ?_ ?_ hk
      · simp only [List.mem_cons, List.not_mem_nil, or_false] at z2; omega
      · have := List.all_eq_true.mp h7 G z2
        simpa using this
noncomputable def maM9 (ms : Nat) : Bool := (!Nat.testBit ms (128 * 15 + 3)) && (!Nat.testBit ms (128 * 15 + 8)) && (!Nat.testBit ms (128 * 15 + 9)) && (!Nat.testBit ms (128 * 15 + 13)) && (!Nat.testBit ms (128 * 15 + 17)) && (!Nat.testBit ms (128 * 15 + 32)) && [59, 61, 62, 63, 64, 65, 66, 67, 68, 69, 70, 71, 72, 73, 76, 77, 78, 79, 80, 81].all (fun G => !Nat.testBit ms (2048 + G))
theorem eqM_k9 {ms : Nat} (h : maM9 ms = true) {g g_q : rHp} (hk : ∀ (G : Nat) (k j : Int), ¬ rMdP ms G j → g_q G k j = g G k j) : eqM (rUp g 15 0 59 (g_q 15 0 59)) g_q := by
  unfold maM9 at h
  simp only [Bool.and_eq_true, Bool.not_eq_true'] at h
  obtain ⟨⟨⟨⟨⟨⟨h1, h2⟩, h3⟩, h4⟩, h5⟩, h6⟩, h8⟩ := h
  have arr : ∀ G, G ∈ [59, 61, 62, 63, 64, 65, 66, 67, 68, 69, 70, 71, 72, 73, 76, 77, 78, 79, 80, 81] → g_q G = g G := fun G z => by
    refine zKa ?_ ?_ hk
    · simp only [List.mem_cons, List.not_mem_nil, or_false] at z; omega
    · have := List.all_eq_true.mp h8 G z
      simpa using this
  have n : ∀ j : Int, j ≠ 59 → rUp g 15 0 59 (g_q 15 0 59) 15 0 j = g 15 0 j := fun j q => rUp_ne (fun z => q z.2.2)
  have w : ∀ K : Nat, K ≠ 15 → rUp g 15 0 59 (g_q 15 0 59) K = g K := fun K q => rUp_grp q
  refine ⟨⟨?_, ?_, ?_, ?_, ?_, ?_, rUp_at.symm⟩, fun G z => ?_, fun x _ => by rw [arr 80 (by decide), w 80 (by decide)]⟩
  · rw [n 3 (by decide)]; exact zKo (by decide) h1 hk 0
  · rw [n 8 (by decide)]; exact zKo (by decide) h2 hk 0
  · rw [n 9 (by decide)]; exact zKo (by decide) h3 hk 0
  · rw [n 13 (by decide)]; exact zKo (by decide) h4 hk 0
  · rw [n 17 (by decide)]; exact zKo (by decide) h5 hk 0
  · rw [n 32 (by decide)]; exact zKo (by decide) h6 hk 0
  · rw [w G (by rintro rfl; exact absurd z (by decide))]
    refine arr G ?_
    unfold lEM at z
    simp only [List.mem_cons, List.not_mem_nil, or_false] at z ⊢
    omega
theorem rg66 {g : rHp} (h : rRg uW g) (p : Int) : g 66 0 p ≤ 4 :=
  (h 66 (1000, 21, Int.ofNat 1, [(0, Int.ofNat 0, Int.ofNat 4, 0, Int.ofNat 0, Int.ofNat 0, Int.ofNat 0)]) rfl 0 p).2
