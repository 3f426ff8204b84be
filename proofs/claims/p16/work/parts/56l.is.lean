/-! ===== the runs are the functions ===== -/
theorem vn117_0 {S : Nat → zSpc}  {a : List Int} {g : rHp} : ∀ (ρ : Nat → Int) (γ : Nat → rHp), zO 2 S a g q117_0 ρ γ → zGl (fun _ _ _ => True) (sn117 a g) q117_0 ρ γ := by
  intro ρ γ h
  obtain ⟨ha, hg, hr, hf, hm, hc, hl⟩ := h
  have ha : a = [ρ 0, ρ 1] := ha
  subst ha
  subst hg
  have r3 : (0 : Int) ≤ ρ 3 ∧ ρ 3 ≤ 0 := zRnA hr 3
  have w_0 : ρ 3 ≠ 1 := by omega
  have m0 : γ 0 2 0 5 = ρ 1 := zAllA hm 0
  have l0 : zOpP (.ishr) (γ 0) (γ 1) [ρ 1, ρ 0] (ρ 2) := zAllA hl 0
  have l1 : zOpP (.iand) (γ 0) (γ 1) [ρ 2, 1] (ρ 3) := zAllA hl 1
  show sn117 [ρ 0, ρ 1] (γ 0) 0 0 (γ 0)
  refine Eq.symm ?_
  show fn117 [ρ 0] (γ 0) = _
  unfold fn117
  refine zLV (ρ 0) rfl (zLE m0 (zLE (zF2_ok l0) (zLE (zF2_ok l1) (zIP w_0 ?_))))
  rfl
theorem vn117_1 {S : Nat → zSpc}  {a : List Int} {g : rHp} : ∀ (ρ : Nat → Int) (γ : Nat → rHp), zO 2 S a g q117_1 ρ γ → zGl (fun _ _ _ => True) (sn117 a g) q117_1 ρ γ := by
  intro ρ γ h
  obtain ⟨ha, hg, hr, hf, hm, hc, hl⟩ := h
  have ha : a = [ρ 0, ρ 1] := ha
  subst ha
  subst hg
  have r3 : (1 : Int) ≤ ρ 3 ∧ ρ 3 ≤ 1 := zRnA hr 3
  have w_0 : ¬ (ρ 3 ≠ 1) := by omega
  have m0 : γ 0 2 0 5 = ρ 1 := zAllA hm 0
  have l0 : zOpP (.ishr) (γ 0) (γ 1) [ρ 1, ρ 0] (ρ 2) := zAllA hl 0
  have l1 : zOpP (.iand) (γ 0) (γ 1) [ρ 2, 1] (ρ 3) := zAllA hl 1
  show sn117 [ρ 0, ρ 1] (γ 0) 0 1 (γ 0)
  refine Eq.symm ?_
  show fn117 [ρ 0] (γ 0) = _
  unfold fn117
  refine zLV (ρ 0) rfl (zLE m0 (zLE (zF2_ok l0) (zLE (zF2_ok l1) (zIN w_0 ?_))))
  rfl
theorem yn117 {S : Nat → zSpc}  : ∀ x g o v gz, zSem uW uT w117_.2.2.2.1 w117_.2.2.1.1.length S q117 (fun i => q117a.getD i []) (zNA a117_) x g o v gz → sn117 x g o v gz := by
  intro a g o v gz h
  exact zSem_all (l0 := q117) (las := q117a) (S := S) (J := (fun _ _ _ => True)) (P := sn117 a g) (fun _ => (show zAll _ [q117_0, q117_1] from (zAll_c (vn117_0 ) (zAll_c (vn117_1 ) zAll_n)))) (fun _ => (show zAllI _ 0 [] from trivial)) h
theorem vn118_0 {S : Nat → zSpc}  {a : List Int} {g : rHp} : ∀ (ρ : Nat → Int) (γ : Nat → rHp), zO 2 S a g q118_0 ρ γ → zGl (fun _ _ _ => True) (sn118 a g) q118_0 ρ γ := by
  intro ρ γ h
  obtain ⟨ha, hg, hr, hf, hm, hc, hl⟩ := h
  have ha : a = [ρ 0, ρ 1] := ha
  subst ha
  subst hg
  have r3 : (0 : Int) ≤ ρ 3 ∧ ρ 3 ≤ 0 := zRnA hr 3
  have w_0 : ρ 3 ≠ 1 := by omega
  have m0 : γ 0 2 0 5 = ρ 1 := zAllA hm 0
  have l0 : zOpP (.ishr) (γ 0) (γ 1) [ρ 1, ρ 0] (ρ 2) := zAllA hl 0
  have l1 : zOpP (.iand) (γ 0) (γ 1) [ρ 2, 1] (ρ 3) := zAllA hl 1
  show sn118 [ρ 0, ρ 1] (γ 0) 0 0 (γ 0)
  refine Eq.symm ?_
  show fn118 [ρ 0] (γ 0) = _
  unfold fn118
  refine zLV (ρ 0) rfl (zLE m0 (zLE (zF2_ok l0) (zLE (zF2_ok l1) (zIP w_0 ?_))))
  rfl
theorem vn118_1 {S : Nat → zSpc}  {a : List Int} {g : rHp} : ∀ (ρ : Nat → Int) (γ : Nat → rHp), zO 2 S a g q118_1 ρ γ → zGl (fun _ _ _ => True) (sn118 a g) q118_1 ρ γ := by
  intro ρ γ h
  obtain ⟨ha, hg, hr, hf, hm, hc, hl⟩ := h
  have ha : a = [ρ 0, ρ 1] := ha
  subst ha
  subst hg
  have r3 : (1 : Int) ≤ ρ 3 ∧ ρ 3 ≤ 1 := zRnA hr 3
  have w_0 : ¬ (ρ 3 ≠ 1) := by omega
  have m0 : γ 0 2 0 5 = ρ 1 := zAllA hm 0
  have l0 : zOpP (.ishr) (γ 0) (γ 1) [ρ 1, ρ 0] (ρ 2) := zAllA hl 0
  have l1 : zOpP (.iand) (γ 0) (γ 1) [ρ 2, 1] (ρ 3) := zAllA hl 1
  show sn118 [ρ 0, ρ 1] (γ 0) 0 1 (γ 0)
  refine Eq.symm ?_
  show fn118 [ρ 0] (γ 0) = _
  unfold fn118
  refine zLV (ρ 0) rfl (zLE m0 (zLE (zF2_ok l0) (zLE (zF2_ok l1) (zIN w_0 ?_))))
  rfl
theorem yn118 {S : Nat → zSpc}  : ∀ x g o v gz, zSem uW uT w118_.2.2.2.1 w118_.2.2.1.1.length S q118 (fun i => q118a.getD i []) (zNA a118_) x g o v gz → sn118 x g o v gz := by
  intro a g o v gz h
  exact zSem_all (l0 := q118) (las := q118a) (S := S) (J := (fun _ _ _ => True)) (P := sn118 a g) (fun _ => (show zAll _ [q118_0, q118_1] from (zAll_c (vn118_0 ) (zAll_c (vn118_1 ) zAll_n)))) (fun _ => (show zAllI _ 0 [] from trivial)) h
theorem vn119_0 {S : Nat → zSpc}  {a : List Int} {g : rHp} : ∀ (ρ : Nat → Int) (γ : Nat → rHp), zO 2 S a g q119_0 ρ γ → zGl (fun i vs g1 => jn119 a g i vs g1) (sn119 a g) q119_0 ρ γ := by
  intro ρ γ h
  obtain ⟨ha, hg, hr, hf, hm, hc, hl⟩ := h
  have ha : a = [ρ 0, ρ 1] := ha
  subst ha
  subst hg
  show jn119 [ρ 0, ρ 1] (γ 0) 0 [ρ 0, ρ 1, 0] (γ 0)
  have hD : dn119 [ρ 0] (γ 0) = .inl (0, [ρ 0, 0], γ 0) := by
    unfold dn119
    refine zLV (ρ 0) rfl ?_
    rfl
  exact zGoo_to hD
theorem vn119a0_0 {S : Nat → zSpc}  {a : List Int} {g : rHp} : ∀ (ρ : Nat → Int) (γ : Nat → rHp), jn119 a g 0 (zAg (zNA a119_ 0) ρ) (γ 1) → zO 2 S a g q119a0_0 ρ γ → zGl (fun i vs g1 => jn119 a g i vs g1) (sn119 a g) q119a0_0 ρ γ := by
  intro ρ γ hJ h
  obtain ⟨ha, hg, hr, hf, hm, hc, hl⟩ := h
  have ha : a = [ρ 0, ρ 1] := ha
  subst ha
  subst hg
  have hJ : jn119 [ρ 0, ρ 1] (γ 0) 0 [ρ 0, ρ 1, ρ 2] (γ 1) := hJ
  have f0 : (0 : Int) ≤ ρ 2 + -ρ 1 := zAllA hf 0
  have w_0 : ρ 2 ≥ ρ 1 := by omega
  have m0 : γ 0 2 0 13 = ρ 1 := zAllA hm 0
  show sn119 [ρ 0, ρ 1] (γ 0) 0 (-1) (γ 1)
  have hD : en119 (γ 0) (0, [ρ 0, ρ 2], γ 1) = .inr (0, (-1), γ 1) := by
    unfold en119
    refine zIP (show (0 : Nat) = 0 by decide) (zLV (γ 1) rfl (zLV (ρ 0) rfl (zLV (ρ 2) rfl (zLE m0 (zIP w_0 ?_)))))
    rfl
  exact zGoo_aend hJ hD
theorem vn119a0_1 {S : Nat → zSpc}  {a : List Int} {g : rHp} : ∀ (ρ : Nat → Int) (γ : Nat → rHp), jn119 a g 0 (zAg (zNA a119_ 0) ρ) (γ 1) → zO 2 S a g q119a0_1 ρ γ → zGl (fun i vs g1 => jn119 a g i vs g1) (sn119 a g) q119a0_1 ρ γ := by
  intro ρ γ hJ h
  obtain ⟨ha, hg, hr, hf, hm, hc, hl⟩ := h
  have ha : a = [ρ 0, ρ 1] := ha
  subst ha
  subst hg
  have hJ : jn119 [ρ 0, ρ 1] (γ 0) 0 [ρ 0, ρ 1, ρ 2] (γ 1) := hJ
  have r0 : ((-9223372036854775808) : Int) ≤ ρ 0 ∧ ρ 0 ≤ 9223372036854775807 := zRnA hr 0
  have r3 : ((-9223372036854775808) : Int) ≤ ρ 3 ∧ ρ 3 ≤ 9223372036854775807 := zRnA hr 3
  have f0 : (0 : Int) ≤ -ρ 2 + ρ 1 + (-1) := zAllA hf 0
  have w_0 : ¬ (ρ 2 ≥ ρ 1) := by omega
  have m0 : γ 0 2 0 13 = ρ 1 := zAllA hm 0
  have m1 : γ 0 22 0 (ρ 2) = ρ 3 := zAllA hm 1
  have l0 : ρ 3 ≠ ρ 0 := zAllA hl 0
  have wl_0 : ρ 3 ≠ ρ 0 := by omega
  show jn119 [ρ 0, ρ 1] (γ 0) 0 [ρ 0, ρ 1, ρ 2 + 1] (γ 1)
  have hD : en119 (γ 0) (0, [ρ 0, ρ 2], γ 1) = .inl (0, [ρ 0, ρ 2 + 1], γ 1) := by
    unfold en119
    refine zIP (show (0 : Nat) = 0 by decide) (zLV (γ 1) rfl (zLV (ρ 0) rfl (zLV (ρ 2) rfl (zLE m0 (zIN w_0 (zLE m1 (zIP wl_0 ?_)))))))
    rfl
  exact zGoo_ato hJ hD
theorem vn119a0_2 {S : Nat → zSpc}  {a : List Int} {g : rHp} : ∀ (ρ : Nat → Int) (γ : Nat → rHp), jn119 a g 0 (zAg (zNA a119_ 0) ρ) (γ 1) → zO 2 S a g q119a0_2 ρ γ → zGl (fun i vs g1 => jn119 a g i vs g1) (sn119 a g) q119a0_2 ρ γ := by
  intro ρ γ hJ h
  obtain ⟨ha, hg, hr, hf, hm, hc, hl⟩ := h
  have ha : a = [ρ 0, ρ 1] := ha
  subst ha
  subst hg
  have hJ : jn119 [ρ 0, ρ 1] (γ 0) 0 [ρ 0, ρ 1, ρ 2] (γ 1) := hJ
  have f0 : (0 : Int) ≤ -ρ 3 + ρ 0 := zAllA hf 0
  have f1 : (0 : Int) ≤ ρ 3 + -ρ 0 := zAllA hf 1
  have f2 : (0 : Int) ≤ -ρ 2 + ρ 1 + (-1) := zAllA hf 2
  obtain ⟨w_0, w_1⟩ : (¬ (ρ 2 ≥ ρ 1)) ∧ (¬ (ρ 3 ≠ ρ 0)) := ⟨by omega, by omega⟩
  have m0 : γ 0 2 0 13 = ρ 1 := zAllA hm 0
  have m1 : γ 0 22 0 (ρ 2) = ρ 3 := zAllA hm 1
  show sn119 [ρ 0, ρ 1] (γ 0) 0 (ρ 2) (γ 1)
  have hD : en119 (γ 0) (0, [ρ 0, ρ 2], γ 1) = .inr (0, ρ 2, γ 1) := by
    unfold en119
    refine zIP (show (0 : Nat) = 0 by decide) (zLV (γ 1) rfl (zLV (ρ 0) rfl (zLV (ρ 2) rfl (zLE m0 (zIN w_0 (zLE m1 (zIN w_1 ?_)))))))
    rfl
  exact zGoo_aend hJ hD
theorem yn119 {S : Nat → zSpc}  : ∀ x g o v gz, zSem uW uT w119_.2.2.2.1 w119_.2.2.1.1.length S q119 (fun i => q119a.getD i []) (zNA a119_) x g o v gz → sn119 x g o v gz := by
  intro a g o v gz h
  exact zSem_all (l0 := q119) (las := q119a) (S := S) (J := (fun i vs g1 => jn119 a g i vs g1)) (P := sn119 a g) (fun _ => (show zAll _ [q119_0] from (zAll_c (vn119_0 ) zAll_n))) (fun _ => (show zAllI _ 0 [q119a0] from ⟨(show zAll _ [q119a0_0, q119a0_1, q119a0_2] from (zAll_c (vn119a0_0 ) (zAll_c (vn119a0_1 ) (zAll_c (vn119a0_2 ) zAll_n)))), trivial⟩)) h
theorem vn120_0 {S : Nat → zSpc} (hS119 : zIm S 119 sn119) {a : List Int} {g : rHp} : ∀ (ρ : Nat → Int) (γ : Nat → rHp), zO 2 S a g q120_0 ρ γ → zGl (fun _ _ _ => True) (sn120 a g) q120_0 ρ γ := by
  intro ρ γ h
  obtain ⟨ha, hg, hr, hf, hm, hc, hl⟩ := h
  have ha : a = [ρ 0, ρ 1] := ha
  subst ha
  subst hg
  have r1 : (0 : Int) ≤ ρ 1 ∧ ρ 1 ≤ 7 := zRnA hr 1
  have r2 : ((-1) : Int) ≤ ρ 2 ∧ ρ 2 ≤ (-1) := zRnA hr 2
  obtain ⟨w_0, w_1⟩ : (ρ 2 < 0) ∧ (ρ 1 < 8) := ⟨by omega, by omega⟩
  have m0 : γ 0 2 0 13 = ρ 1 := zAllA hm 0
  have c2 : γ 2 = rUp (γ 1) 22 0 (ρ 1) (ρ 0) := And.right (zChA hc 2)
  have c3 : γ 3 = rUp (γ 2) 23 0 (ρ 1) 1 := And.right (zChA hc 1)
  have c4 : γ 4 = rUp (γ 3) 2 0 13 (ρ 1 + 1) := And.right (zChA hc 0)
  have l0 : sn119 [ρ 0, ρ 1] (γ 0) 0 (ρ 2) (γ 1) := hS119 _ _ _ _ _ (zAllA hl 0)
  show sn120 [ρ 0, ρ 1] (γ 0) 0 (ρ 1) (γ 4)
  refine Eq.symm ?_
  show fn120 [ρ 0] (γ 0) = _
  unfold fn120
  refine zLV (ρ 0) rfl (zLE m0 (zLE (show fn119 [ρ 0] (γ 0) = (0, ρ 2, γ 1) from l0.symm) (zLV (γ 1) rfl (zLV (ρ 2) rfl (zIP w_0 (zIP w_1 (zLE c2.symm ?_)))))))
  refine zLE c3.symm (zLE c4.symm ?_)
  rfl
theorem vn120_1 {S : Nat → zSpc} (hS119 : zIm S 119 sn119) {a : List Int} {g : rHp} : ∀ (ρ : Nat → Int) (γ : Nat → rHp), zO 2 S a g q120_1 ρ γ → zGl (fun _ _ _ => True) (sn120 a g) q120_1 ρ γ := by
  intro ρ γ h
  obtain ⟨ha, hg, hr, hf, hm, hc, hl⟩ := h
  have ha : a = [ρ 0, ρ 1] := ha
  subst ha
  subst hg
  have r1 : (8 : Int) ≤ ρ 1 ∧ ρ 1 ≤ 8 := zRnA hr 1
  have r2 : ((-1) : Int) ≤ ρ 2 ∧ ρ 2 ≤ (-1) := zRnA hr 2
  obtain ⟨w_0, w_1⟩ : (ρ 2 < 0) ∧ (¬ (ρ 1 < 8)) := ⟨by omega, by omega⟩
  have m0 : γ 0 2 0 13 = ρ 1 := zAllA hm 0
  have l0 : sn119 [ρ 0, ρ 1] (γ 0) 0 (ρ 2) (γ 1) := hS119 _ _ _ _ _ (zAllA hl 0)
  show sn120 [ρ 0, ρ 1] (γ 0) 0 (-1) (γ 1)
  refine Eq.symm ?_
  show fn120 [ρ 0] (γ 0) = _
  unfold fn120
  refine zLV (ρ 0) rfl (zLE m0 (zLE (show fn119 [ρ 0] (γ 0) = (0, ρ 2, γ 1) from l0.symm) (zLV (γ 1) rfl (zLV (ρ 2) rfl (zIP w_0 (zIN w_1 ?_))))))
  rfl
theorem vn120_2 {S : Nat → zSpc} (hS119 : zIm S 119 sn119) {a : List Int} {g : rHp} : ∀ (ρ : Nat → Int) (γ : Nat → rHp), zO 2 S a g q120_2 ρ γ → zGl (fun _ _ _ => True) (sn120 a g) q120_2 ρ γ := by
  intro ρ γ h
  obtain ⟨ha, hg, hr, hf, hm, hc, hl⟩ := h
  have ha : a = [ρ 0, ρ 1] := ha
  subst ha
  subst hg
  have r2 : (0 : Int) ≤ ρ 2 ∧ ρ 2 ≤ 8 := zRnA hr 2
  have w_0 : ¬ (ρ 2 < 0) := by omega
  have m0 : γ 0 2 0 13 = ρ 1 := zAllA hm 0
  have m1 : γ 0 23 0 (ρ 2) = ρ 3 := zAllA hm 1
  have c2 : γ 2 = rUp (γ 1) 23 0 (ρ 2) (ρ 4) := And.right (zChA hc 0)
  have l0 : sn119 [ρ 0, ρ 1] (γ 0) 0 (ρ 2) (γ 1) := hS119 _ _ _ _ _ (zAllA hl 0)
  have l1 : zOpP (.iadd) (γ 0) (γ 1) [ρ 3, 1] (ρ 4) := zAllA hl 1
  show sn120 [ρ 0, ρ 1] (γ 0) 0 (ρ 2) (γ 2)
  refine Eq.symm ?_
  show fn120 [ρ 0] (γ 0) = _
  unfold fn120
  refine zLV (ρ 0) rfl (zLE m0 (zLE (show fn119 [ρ 0] (γ 0) = (0, ρ 2, γ 1) from l0.symm) (zLV (γ 1) rfl (zLV (ρ 2) rfl (zIN w_0 (zLE m1 (zLE (zF2_ok l1) ?_)))))))
  refine zLE c2.symm ?_
  rfl
theorem yn120 {S : Nat → zSpc} (hS119 : zIm S 119 sn119) : ∀ x g o v gz, zSem uW uT w120_.2.2.2.1 w120_.2.2.1.1.length S q120 (fun i => q120a.getD i []) (zNA a120_) x g o v gz → sn120 x g o v gz := by
  intro a g o v gz h
  exact zSem_all (l0 := q120) (las := q120a) (S := S) (J := (fun _ _ _ => True)) (P := sn120 a g) (fun _ => (show zAll _ [q120_0, q120_1, q120_2] from (zAll_c (vn120_0 hS119) (zAll_c (vn120_1 hS119) (zAll_c (vn120_2 hS119) zAll_n))))) (fun _ => (show zAllI _ 0 [] from trivial)) h
theorem vn121_0 {S : Nat → zSpc}  {a : List Int} {g : rHp} : ∀ (ρ : Nat → Int) (γ : Nat → rHp), zO 3 S a g q121_0 ρ γ → zGl (fun _ _ _ => True) (sn121 a g) q121_0 ρ γ := by
  intro ρ γ h
  obtain ⟨ha, hg, hr, hf, hm, hc, hl⟩ := h
  have ha : a = [ρ 0, ρ 1, ρ 2] := ha
  subst ha
  subst hg
  have r2 : (32 : Int) ≤ ρ 2 ∧ ρ 2 ≤ 32 := zRnA hr 2
  have w_0 : ρ 2 ≥ 32 := by omega
  have m0 : γ 0 2 0 9 = ρ 1 := zAllA hm 0
  have m1 : γ 0 2 0 16 = ρ 2 := zAllA hm 1
  show sn121 [ρ 0, ρ 1, ρ 2] (γ 0) 0 0 (γ 0)
  refine Eq.symm ?_
  show fn121 [ρ 0] (γ 0) = _
  unfold fn121
  refine zLV (ρ 0) rfl (zLE m0 (zLE m1 (zIP w_0 ?_)))
  rfl
theorem vn121_1 {S : Nat → zSpc}  {a : List Int} {g : rHp} : ∀ (ρ : Nat → Int) (γ : Nat → rHp), zO 3 S a g q121_1 ρ γ → zGl (fun _ _ _ => True) (sn121 a g) q121_1 ρ γ := by
  intro ρ γ h
  obtain ⟨ha, hg, hr, hf, hm, hc, hl⟩ := h
  have ha : a = [ρ 0, ρ 1, ρ 2] := ha
  subst ha
  subst hg
  have r2 : (0 : Int) ≤ ρ 2 ∧ ρ 2 ≤ 31 := zRnA hr 2
  have w_0 : ¬ (ρ 2 ≥ 32) := by omega
  have m0 : γ 0 2 0 9 = ρ 1 := zAllA hm 0
  have m1 : γ 0 2 0 16 = ρ 2 := zAllA hm 1
  have c1 : γ 1 = rUp (γ 0) 24 0 (ρ 2) (ρ 1) := And.right (zChA hc 2)
  have c2 : γ 2 = rUp (γ 1) 25 0 (ρ 2) (ρ 0) := And.right (zChA hc 1)
  have c3 : γ 3 = rUp (γ 2) 2 0 16 (ρ 2 + 1) := And.right (zChA hc 0)
  show sn121 [ρ 0, ρ 1, ρ 2] (γ 0) 0 0 (γ 3)
  refine Eq.symm ?_
  show fn121 [ρ 0] (γ 0) = _
  unfold fn121
  refine zLV (ρ 0) rfl (zLE m0 (zLE m1 (zIN w_0 (zLE c1.symm (zLE c2.symm (zLE c3.symm ?_))))))
  rfl
theorem yn121 {S : Nat → zSpc}  : ∀ x g o v gz, zSem uW uT w121_.2.2.2.1 w121_.2.2.1.1.length S q121 (fun i => q121a.getD i []) (zNA a121_) x g o v gz → sn121 x g o v gz := by
  intro a g o v gz h
  exact zSem_all (l0 := q121) (las := q121a) (S := S) (J := (fun _ _ _ => True)) (P := sn121 a g) (fun _ => (show zAll _ [q121_0, q121_1] from (zAll_c (vn121_0 ) (zAll_c (vn121_1 ) zAll_n)))) (fun _ => (show zAllI _ 0 [] from trivial)) h
theorem vn122_0 {S : Nat → zSpc}  {a : List Int} {g : rHp} : ∀ (ρ : Nat → Int) (γ : Nat → rHp), zO 1 S a g q122_0 ρ γ → zGl (fun _ _ _ => True) (sn122 a g) q122_0 ρ γ := by
  intro ρ γ h
  obtain ⟨ha, hg, hr, hf, hm, hc, hl⟩ := h
  have ha : a = [ρ 0] := ha
  subst ha
  subst hg
  have r0 : ((-9223372036854775808) : Int) ≤ ρ 0 ∧ ρ 0 ≤ 9223372036854775807 := zRnA hr 0
  have l0 : ρ 0 ≠ 7109364 := zAllA hl 0
  have l1 : ρ 0 ≠ 28247 := zAllA hl 1
  have l2 : ρ 0 ≠ 19128 := zAllA hl 2
  have l3 : ρ 0 ≠ 18834 := zAllA hl 3
  obtain ⟨wl_0, wl_1, wl_2, wl_3⟩ : (ρ 0 ≠ 7109364) ∧ (ρ 0 ≠ 28247) ∧ (ρ 0 ≠ 19128) ∧ (ρ 0 ≠ 18834) := ⟨by omega, by omega, by omega, by omega⟩
  show sn122 [ρ 0] (γ 0) 0 0 (γ 0)
  refine Eq.symm ?_
  show fn122 [ρ 0] (γ 0) = _
  unfold fn122
  refine zLV (ρ 0) rfl (zIP wl_0 (zIP wl_1 (zIP wl_2 (zIP wl_3 ?_))))
  rfl
theorem vn122_1 {S : Nat → zSpc}  {a : List Int} {g : rHp} : ∀ (ρ : Nat → Int) (γ : Nat → rHp), zO 1 S a g q122_1 ρ γ → zGl (fun _ _ _ => True) (sn122 a g) q122_1 ρ γ := by
  intro ρ γ h
  obtain ⟨ha, hg, hr, hf, hm, hc, hl⟩ := h
  have ha : a = [ρ 0] := ha
  subst ha
  subst hg
  have r0 : (18834 : Int) ≤ ρ 0 ∧ ρ 0 ≤ 18834 := zRnA hr 0
  obtain ⟨w_0, w_1, w_2, w_3⟩ : (ρ 0 ≠ 7109364) ∧ (ρ 0 ≠ 28247) ∧ (ρ 0 ≠ 19128) ∧ (¬ (ρ 0 ≠ 18834)) := ⟨by omega, by omega, by omega, by omega⟩
  have l0 : ρ 0 ≠ 7109364 := zAllA hl 0
  have l1 : ρ 0 ≠ 28247 := zAllA hl 1
  have l2 : ρ 0 ≠ 19128 := zAllA hl 2
  show sn122 [ρ 0] (γ 0) 0 4 (γ 0)
  refine Eq.symm ?_
  show fn122 [ρ 0] (γ 0) = _
  unfold fn122
  refine zLV (ρ 0) rfl (zIP w_0 (zIP w_1 (zIP w_2 (zIN w_3 ?_))))
  rfl
theorem vn122_2 {S : Nat → zSpc}  {a : List Int} {g : rHp} : ∀ (ρ : Nat → Int) (γ : Nat → rHp), zO 1 S a g q122_2 ρ γ → zGl (fun _ _ _ => True) (sn122 a g) q122_2 ρ γ := by
  intro ρ γ h
  obtain ⟨ha, hg, hr, hf, hm, hc, hl⟩ := h
  have ha : a = [ρ 0] := ha
  subst ha
  subst hg
  have r0 : (19128 : Int) ≤ ρ 0 ∧ ρ 0 ≤ 19128 := zRnA hr 0
  obtain ⟨w_0, w_1, w_2⟩ : (ρ 0 ≠ 7109364) ∧ (ρ 0 ≠ 28247) ∧ (¬ (ρ 0 ≠ 19128)) := ⟨by omega, by omega, by omega⟩
  have l0 : ρ 0 ≠ 7109364 := zAllA hl 0
  have l1 : ρ 0 ≠ 28247 := zAllA hl 1
  show sn122 [ρ 0] (γ 0) 0 3 (γ 0)
  refine Eq.symm ?_
  show fn122 [ρ 0] (γ 0) = _
  unfold fn122
  refine zLV (ρ 0) rfl (zIP w_0 (zIP w_1 (zIN w_2 ?_)))
  rfl
theorem vn122_3 {S : Nat → zSpc}  {a : List Int} {g : rHp} : ∀ (ρ : Nat → Int) (γ : Nat → rHp), zO 1 S a g q122_3 ρ γ → zGl (fun _ _ _ => True) (sn122 a g) q122_3 ρ γ := by
  intro ρ γ h
  obtain ⟨ha, hg, hr, hf, hm, hc, hl⟩ := h
  have ha : a = [ρ 0] := ha
  subst ha
  subst hg
  have r0 : (28247 : Int) ≤ ρ 0 ∧ ρ 0 ≤ 28247 := zRnA hr 0
  obtain ⟨w_0, w_1⟩ : (ρ 0 ≠ 7109364) ∧ (¬ (ρ 0 ≠ 28247)) := ⟨by omega, by omega⟩
  have l0 : ρ 0 ≠ 7109364 := zAllA hl 0
  show sn122 [ρ 0] (γ 0) 0 2 (γ 0)
  refine Eq.symm ?_
  show fn122 [ρ 0] (γ 0) = _
  unfold fn122
  refine zLV (ρ 0) rfl (zIP w_0 (zIN w_1 ?_))
  rfl
theorem vn122_4 {S : Nat → zSpc}  {a : List Int} {g : rHp} : ∀ (ρ : Nat → Int) (γ : Nat → rHp), zO 1 S a g q122_4 ρ γ → zGl (fun _ _ _ => True) (sn122 a g) q122_4 ρ γ := by
  intro ρ γ h
  obtain ⟨ha, hg, hr, hf, hm, hc, hl⟩ := h
  have ha : a = [ρ 0] := ha
  subst ha
  subst hg
  have r0 : (7109364 : Int) ≤ ρ 0 ∧ ρ 0 ≤ 7109364 := zRnA hr 0
  have w_0 : ¬ (ρ 0 ≠ 7109364) := by omega
  show sn122 [ρ 0] (γ 0) 0 1 (γ 0)
  refine Eq.symm ?_
  show fn122 [ρ 0] (γ 0) = _
  unfold fn122
  refine zLV (ρ 0) rfl (zIN w_0 ?_)
  rfl
theorem yn122 {S : Nat → zSpc}  : ∀ x g o v gz, zSem uW uT w122_.2.2.2.1 w122_.2.2.1.1.length S q122 (fun i => q122a.getD i []) (zNA a122_) x g o v gz → sn122 x g o v gz := by
  intro a g o v gz h
  exact zSem_all (l0 := q122) (las := q122a) (S := S) (J := (fun _ _ _ => True)) (P := sn122 a g) (fun _ => (show zAll _ [q122_0, q122_1, q122_2, q122_3, q122_4] from (zAll_c (vn122_0 ) (zAll_c (vn122_1 ) (zAll_c (vn122_2 ) (zAll_c (vn122_3 ) (zAll_c (vn122_4 ) zAll_n))))))) (fun _ => (show zAllI _ 0 [] from trivial)) h
theorem vn123_0 {S : Nat → zSpc}  {a : List Int} {g : rHp} : ∀ (ρ : Nat → Int) (γ : Nat → rHp), zO 6 S a g q123_0 ρ γ → zGl (fun _ _ _ => True) (sn123 a g) q123_0 ρ γ := by
  intro ρ γ h
  obtain ⟨ha, hg, hr, hf, hm, hc, hl⟩ := h
  have ha : a = [ρ 0, ρ 1, ρ 2, ρ 3, ρ 4, ρ 5] := ha
  subst ha
  subst hg
  have m0 : γ 0 1 0 7 = ρ 0 := zAllA hm 0
  have m1 : γ 0 1 0 9 = ρ 1 := zAllA hm 1
  have m2 : γ 0 1 0 10 = ρ 2 := zAllA hm 2
  have c1 : γ 1 = rUp (γ 0) 1 0 11 (ρ 0) := And.right (zChA hc 2)
  have c2 : γ 2 = rUp (γ 1) 1 0 12 (ρ 1) := And.right (zChA hc 1)
  have c3 : γ 3 = rUp (γ 2) 1 0 13 (ρ 2) := And.right (zChA hc 0)
  show sn123 [ρ 0, ρ 1, ρ 2, ρ 3, ρ 4, ρ 5] (γ 0) 0 0 (γ 3)
  refine Eq.symm ?_
  show fn123 [] (γ 0) = _
  unfold fn123
  refine zLE m0 (zLE m1 (zLE m2 (zLE c1.symm (zLE c2.symm (zLE c3.symm ?_)))))
  rfl
theorem yn123 {S : Nat → zSpc}  : ∀ x g o v gz, zSem uW uT w123_.2.2.2.1 w123_.2.2.1.1.length S q123 (fun i => q123a.getD i []) (zNA a123_) x g o v gz → sn123 x g o v gz := by
  intro a g o v gz h
  exact zSem_all (l0 := q123) (las := q123a) (S := S) (J := (fun _ _ _ => True)) (P := sn123 a g) (fun _ => (show zAll _ [q123_0] from (zAll_c (vn123_0 ) zAll_n))) (fun _ => (show zAllI _ 0 [] from trivial)) h
theorem vn124_0 {S : Nat → zSpc}  {a : List Int} {g : rHp} : ∀ (ρ : Nat → Int) (γ : Nat → rHp), zO 4 S a g q124_0 ρ γ → zGl (fun _ _ _ => True) (sn124 a g) q124_0 ρ γ := by
  intro ρ γ h
  obtain ⟨ha, hg, hr, hf, hm, hc, hl⟩ := h
  have ha : a = [ρ 0, ρ 1, ρ 2, ρ 3] := ha
  subst ha
  subst hg
  have r0 : (0 : Int) ≤ ρ 0 ∧ ρ 0 ≤ 400 := zRnA hr 0
  have r2 : (0 : Int) ≤ ρ 2 ∧ ρ 2 ≤ 400 := zRnA hr 2
  have m0 : γ 0 1 0 9 = ρ 0 := zAllA hm 0
  have m1 : γ 0 1 0 10 = ρ 1 := zAllA hm 1
  have m2 : γ 0 1 0 12 = ρ 2 := zAllA hm 2
  have m3 : γ 0 1 0 13 = ρ 3 := zAllA hm 3
  have l0 : ρ 0 ≠ ρ 2 := zAllA hl 0
  have wl_0 : ρ 0 ≠ ρ 2 := by omega
  show sn124 [ρ 0, ρ 1, ρ 2, ρ 3] (γ 0) 0 1 (γ 0)
  refine Eq.symm ?_
  show fn124 [] (γ 0) = _
  unfold fn124
  refine zLE m0 (zLE m1 (zLE m2 (zLE m3 (zIP wl_0 ?_))))
  rfl
theorem vn124_1 {S : Nat → zSpc}  {a : List Int} {g : rHp} : ∀ (ρ : Nat → Int) (γ : Nat → rHp), zO 4 S a g q124_1 ρ γ → zGl (fun _ _ _ => True) (sn124 a g) q124_1 ρ γ := by
  intro ρ γ h
  obtain ⟨ha, hg, hr, hf, hm, hc, hl⟩ := h
  have ha : a = [ρ 0, ρ 1, ρ 2, ρ 3] := ha
  subst ha
  subst hg
  have f0 : (0 : Int) ≤ ρ 3 + -ρ 1 := zAllA hf 0
  have f1 : (0 : Int) ≤ -ρ 3 + ρ 1 := zAllA hf 1
  have f2 : (0 : Int) ≤ ρ 2 + -ρ 0 := zAllA hf 2
  have f3 : (0 : Int) ≤ -ρ 2 + ρ 0 := zAllA hf 3
  obtain ⟨w_0, w_1⟩ : (¬ (ρ 0 ≠ ρ 2)) ∧ (ρ 1 = ρ 3) := ⟨by omega, by omega⟩
  have m0 : γ 0 1 0 9 = ρ 0 := zAllA hm 0
  have m1 : γ 0 1 0 10 = ρ 1 := zAllA hm 1
  have m2 : γ 0 1 0 12 = ρ 2 := zAllA hm 2
  have m3 : γ 0 1 0 13 = ρ 3 := zAllA hm 3
  show sn124 [ρ 0, ρ 1, ρ 2, ρ 3] (γ 0) 0 0 (γ 0)
  refine Eq.symm ?_
  show fn124 [] (γ 0) = _
  unfold fn124
  refine zLE m0 (zLE m1 (zLE m2 (zLE m3 (zIN w_0 (zIP w_1 ?_)))))
  rfl
theorem vn124_2 {S : Nat → zSpc}  {a : List Int} {g : rHp} : ∀ (ρ : Nat → Int) (γ : Nat → rHp), zO 4 S a g q124_2 ρ γ → zGl (fun _ _ _ => True) (sn124 a g) q124_2 ρ γ := by
  intro ρ γ h
  obtain ⟨ha, hg, hr, hf, hm, hc, hl⟩ := h
  have ha : a = [ρ 0, ρ 1, ρ 2, ρ 3] := ha
  subst ha
  subst hg
  have r1 : (0 : Int) ≤ ρ 1 ∧ ρ 1 ≤ 60 := zRnA hr 1
  have r3 : (0 : Int) ≤ ρ 3 ∧ ρ 3 ≤ 60 := zRnA hr 3
  have f0 : (0 : Int) ≤ ρ 2 + -ρ 0 := zAllA hf 0
  have f1 : (0 : Int) ≤ -ρ 2 + ρ 0 := zAllA hf 1
  have w_0 : ¬ (ρ 0 ≠ ρ 2) := by omega
  have m0 : γ 0 1 0 9 = ρ 0 := zAllA hm 0
  have m1 : γ 0 1 0 10 = ρ 1 := zAllA hm 1
  have m2 : γ 0 1 0 12 = ρ 2 := zAllA hm 2
  have m3 : γ 0 1 0 13 = ρ 3 := zAllA hm 3
  have l0 : ρ 1 ≠ ρ 3 := zAllA hl 0
  have wl_0 : ¬ (ρ 1 = ρ 3) := by omega
  show sn124 [ρ 0, ρ 1, ρ 2, ρ 3] (γ 0) 0 1 (γ 0)
  refine Eq.symm ?_
  show fn124 [] (γ 0) = _
  unfold fn124
  refine zLE m0 (zLE m1 (zLE m2 (zLE m3 (zIN w_0 (zIN wl_0 ?_)))))
  rfl
theorem yn124 {S : Nat → zSpc}  : ∀ x g o v gz, zSem uW uT w124_.2.2.2.1 w124_.2.2.1.1.length S q124 (fun i => q124a.getD i []) (zNA a124_) x g o v gz → sn124 x g o v gz := by
  intro a g o v gz h
  exact zSem_all (l0 := q124) (las := q124a) (S := S) (J := (fun _ _ _ => True)) (P := sn124 a g) (fun _ => (show zAll _ [q124_0, q124_1, q124_2] from (zAll_c (vn124_0 ) (zAll_c (vn124_1 ) (zAll_c (vn124_2 ) zAll_n))))) (fun _ => (show zAllI _ 0 [] from trivial)) h
theorem vn125_0 {S : Nat → zSpc}  {a : List Int} {g : rHp} : ∀ (ρ : Nat → Int) (γ : Nat → rHp), zO 3 S a g q125_0 ρ γ → zGl (fun i vs g1 => jn125 a g i vs g1) (sn125 a g) q125_0 ρ γ := by
  intro ρ γ h
  obtain ⟨ha, hg, hr, hf, hm, hc, hl⟩ := h
  have ha : a = [ρ 0, ρ 1, ρ 2] := ha
  subst ha
  subst hg
  show jn125 [ρ 0, ρ 1, ρ 2] (γ 0) 0 [ρ 0, ρ 1, ρ 2, 0] (γ 0)
  have hD : dn125 [ρ 0, ρ 1] (γ 0) = .inl (0, [ρ 0, ρ 1, 0], γ 0) := by
    unfold dn125
    refine zLV (ρ 0) rfl (zLV (ρ 1) rfl ?_)
    rfl
  exact zGoo_to hD
theorem vn125a0_0 {S : Nat → zSpc}  {a : List Int} {g : rHp} : ∀ (ρ : Nat → Int) (γ : Nat → rHp), jn125 a g 0 (zAg (zNA a125_ 0) ρ) (γ 1) → zO 3 S a g q125a0_0 ρ γ → zGl (fun i vs g1 => jn125 a g i vs g1) (sn125 a g) q125a0_0 ρ γ := by
  intro ρ γ hJ h
  obtain ⟨ha, hg, hr, hf, hm, hc, hl⟩ := h
  have ha : a = [ρ 0, ρ 1, ρ 2] := ha
  subst ha
  subst hg
  have hJ : jn125 [ρ 0, ρ 1, ρ 2] (γ 0) 0 [ρ 0, ρ 1, ρ 2, ρ 3] (γ 1) := hJ
  have f0 : (0 : Int) ≤ ρ 3 + -ρ 2 := zAllA hf 0
  have w_0 : ρ 3 ≥ ρ 2 := by omega
  have m0 : γ 0 1 0 7 = ρ 2 := zAllA hm 0
  show sn125 [ρ 0, ρ 1, ρ 2] (γ 0) 0 (-1) (γ 1)
  have hD : en125 (γ 0) (0, [ρ 0, ρ 1, ρ 3], γ 1) = .inr (0, (-1), γ 1) := by
    unfold en125
    refine zIP (show (0 : Nat) = 0 by decide) (zLV (γ 1) rfl (zLV (ρ 0) rfl (zLV (ρ 1) rfl (zLV (ρ 3) rfl (zLE m0 (zIP w_0 ?_))))))
    rfl
  exact zGoo_aend hJ hD
theorem vn125a0_1 {S : Nat → zSpc}  {a : List Int} {g : rHp} : ∀ (ρ : Nat → Int) (γ : Nat → rHp), jn125 a g 0 (zAg (zNA a125_ 0) ρ) (γ 1) → zO 3 S a g q125a0_1 ρ γ → zGl (fun i vs g1 => jn125 a g i vs g1) (sn125 a g) q125a0_1 ρ γ := by
  intro ρ γ hJ h
  obtain ⟨ha, hg, hr, hf, hm, hc, hl⟩ := h
  have ha : a = [ρ 0, ρ 1, ρ 2] := ha
  subst ha
  subst hg
  have hJ : jn125 [ρ 0, ρ 1, ρ 2] (γ 0) 0 [ρ 0, ρ 1, ρ 2, ρ 3] (γ 1) := hJ
  have r0 : ((-9223372036854775808) : Int) ≤ ρ 0 ∧ ρ 0 ≤ 9223372036854775807 := zRnA hr 0
  have r4 : ((-9223372036854775808) : Int) ≤ ρ 4 ∧ ρ 4 ≤ 9223372036854775807 := zRnA hr 4
  have f0 : (0 : Int) ≤ -ρ 3 + ρ 2 + (-1) := zAllA hf 0
  have w_0 : ¬ (ρ 3 ≥ ρ 2) := by omega
  have m0 : γ 0 1 0 7 = ρ 2 := zAllA hm 0
  have m1 : γ 0 16 0 (ρ 3) = ρ 4 := zAllA hm 1
  have l0 : ρ 4 ≠ ρ 0 := zAllA hl 0
  have wl_0 : ρ 4 ≠ ρ 0 := by omega
  show jn125 [ρ 0, ρ 1, ρ 2] (γ 0) 0 [ρ 0, ρ 1, ρ 2, ρ 3 + 1] (γ 1)
  have hD : en125 (γ 0) (0, [ρ 0, ρ 1, ρ 3], γ 1) = .inl (0, [ρ 0, ρ 1, ρ 3 + 1], γ 1) := by
    unfold en125
    refine zIP (show (0 : Nat) = 0 by decide) (zLV (γ 1) rfl (zLV (ρ 0) rfl (zLV (ρ 1) rfl (zLV (ρ 3) rfl (zLE m0 (zIN w_0 (zLE m1 ?_)))))))
    refine zIP wl_0 ?_
    rfl
  exact zGoo_ato hJ hD
theorem vn125a0_2 {S : Nat → zSpc}  {a : List Int} {g : rHp} : ∀ (ρ : Nat → Int) (γ : Nat → rHp), jn125 a g 0 (zAg (zNA a125_ 0) ρ) (γ 1) → zO 3 S a g q125a0_2 ρ γ → zGl (fun i vs g1 => jn125 a g i vs g1) (sn125 a g) q125a0_2 ρ γ := by
  intro ρ γ hJ h
  obtain ⟨ha, hg, hr, hf, hm, hc, hl⟩ := h
  have ha : a = [ρ 0, ρ 1, ρ 2] := ha
  subst ha
  subst hg
  have hJ : jn125 [ρ 0, ρ 1, ρ 2] (γ 0) 0 [ρ 0, ρ 1, ρ 2, ρ 3] (γ 1) := hJ
  have r1 : ((-2147483648) : Int) ≤ ρ 1 ∧ ρ 1 ≤ 2147483647 := zRnA hr 1
  have r5 : (0 : Int) ≤ ρ 5 ∧ ρ 5 ≤ 4 := zRnA hr 5
  have f0 : (0 : Int) ≤ -ρ 4 + ρ 0 := zAllA hf 0
  have f1 : (0 : Int) ≤ ρ 4 + -ρ 0 := zAllA hf 1
  have f2 : (0 : Int) ≤ -ρ 3 + ρ 2 + (-1) := zAllA hf 2
  obtain ⟨w_0, w_1⟩ : (¬ (ρ 3 ≥ ρ 2)) ∧ (¬ (ρ 4 ≠ ρ 0)) := ⟨by omega, by omega⟩
  have m0 : γ 0 1 0 7 = ρ 2 := zAllA hm 0
  have m1 : γ 0 16 0 (ρ 3) = ρ 4 := zAllA hm 1
  have m2 : γ 0 17 0 (ρ 3) = ρ 5 := zAllA hm 2
  have l0 : ρ 5 ≠ ρ 1 := zAllA hl 0
  have wl_0 : ρ 5 ≠ ρ 1 := by omega
  show jn125 [ρ 0, ρ 1, ρ 2] (γ 0) 0 [ρ 0, ρ 1, ρ 2, ρ 3 + 1] (γ 1)
  have hD : en125 (γ 0) (0, [ρ 0, ρ 1, ρ 3], γ 1) = .inl (0, [ρ 0, ρ 1, ρ 3 + 1], γ 1) := by
    unfold en125
    refine zIP (show (0 : Nat) = 0 by decide) (zLV (γ 1) rfl (zLV (ρ 0) rfl (zLV (ρ 1) rfl (zLV (ρ 3) rfl (zLE m0 (zIN w_0 (zLE m1 ?_)))))))
    refine zIN w_1 (zLE m2 (zIP wl_0 ?_))
    rfl
  exact zGoo_ato hJ hD
theorem vn125a0_3 {S : Nat → zSpc}  {a : List Int} {g : rHp} : ∀ (ρ : Nat → Int) (γ : Nat → rHp), jn125 a g 0 (zAg (zNA a125_ 0) ρ) (γ 1) → zO 3 S a g q125a0_3 ρ γ → zGl (fun i vs g1 => jn125 a g i vs g1) (sn125 a g) q125a0_3 ρ γ := by
  intro ρ γ hJ h
  obtain ⟨ha, hg, hr, hf, hm, hc, hl⟩ := h
  have ha : a = [ρ 0, ρ 1, ρ 2] := ha
  subst ha
  subst hg
  have hJ : jn125 [ρ 0, ρ 1, ρ 2] (γ 0) 0 [ρ 0, ρ 1, ρ 2, ρ 3] (γ 1) := hJ
  have f0 : (0 : Int) ≤ -ρ 5 + ρ 1 := zAllA hf 0
  have f1 : (0 : Int) ≤ ρ 5 + -ρ 1 := zAllA hf 1
  have f2 : (0 : Int) ≤ -ρ 4 + ρ 0 := zAllA hf 2
  have f3 : (0 : Int) ≤ ρ 4 + -ρ 0 := zAllA hf 3
  have f4 : (0 : Int) ≤ -ρ 3 + ρ 2 + (-1) := zAllA hf 4
  obtain ⟨w_0, w_1, w_2⟩ : (¬ (ρ 3 ≥ ρ 2)) ∧ (¬ (ρ 4 ≠ ρ 0)) ∧ (¬ (ρ 5 ≠ ρ 1)) := ⟨by omega, by omega, by omega⟩
  have m0 : γ 0 1 0 7 = ρ 2 := zAllA hm 0
  have m1 : γ 0 16 0 (ρ 3) = ρ 4 := zAllA hm 1
  have m2 : γ 0 17 0 (ρ 3) = ρ 5 := zAllA hm 2
  show sn125 [ρ 0, ρ 1, ρ 2] (γ 0) 0 (ρ 3) (γ 1)
  have hD : en125 (γ 0) (0, [ρ 0, ρ 1, ρ 3], γ 1) = .inr (0, ρ 3, γ 1) := by
    unfold en125
    refine zIP (show (0 : Nat) = 0 by decide) (zLV (γ 1) rfl (zLV (ρ 0) rfl (zLV (ρ 1) rfl (zLV (ρ 3) rfl (zLE m0 (zIN w_0 (zLE m1 ?_)))))))
    refine zIN w_1 (zLE m2 (zIN w_2 ?_))
    rfl
  exact zGoo_aend hJ hD
theorem yn125 {S : Nat → zSpc}  : ∀ x g o v gz, zSem uW uT w125_.2.2.2.1 w125_.2.2.1.1.length S q125 (fun i => q125a.getD i []) (zNA a125_) x g o v gz → sn125 x g o v gz := by
  intro a g o v gz h
  exact zSem_all (l0 := q125) (las := q125a) (S := S) (J := (fun i vs g1 => jn125 a g i vs g1)) (P := sn125 a g) (fun _ => (show zAll _ [q125_0] from (zAll_c (vn125_0 ) zAll_n))) (fun _ => (show zAllI _ 0 [q125a0] from ⟨(show zAll _ [q125a0_0, q125a0_1, q125a0_2, q125a0_3] from (zAll_c (vn125a0_0 ) (zAll_c (vn125a0_1 ) (zAll_c (vn125a0_2 ) (zAll_c (vn125a0_3 ) zAll_n))))), trivial⟩)) h
theorem vn126_0 {S : Nat → zSpc}  {a : List Int} {g : rHp} : ∀ (ρ : Nat → Int) (γ : Nat → rHp), zO 3 S a g q126_0 ρ γ → zGl (fun _ _ _ => True) (sn126 a g) q126_0 ρ γ := by
  intro ρ γ h
  obtain ⟨ha, hg, hr, hf, hm, hc, hl⟩ := h
  have ha : a = [ρ 0, ρ 1, ρ 2] := ha
  subst ha
  subst hg
  have r2 : (0 : Int) ≤ ρ 2 ∧ ρ 2 ≤ 19 := zRnA hr 2
  have w_0 : ρ 2 < 20 := by omega
  have m0 : γ 0 1 0 7 = ρ 2 := zAllA hm 0
  have c1 : γ 1 = rUp (γ 0) 16 0 (ρ 2) (ρ 0) := And.right (zChA hc 2)
  have c2 : γ 2 = rUp (γ 1) 17 0 (ρ 2) (ρ 1) := And.right (zChA hc 1)
  have c3 : γ 3 = rUp (γ 2) 1 0 7 (ρ 2 + 1) := And.right (zChA hc 0)
  show sn126 [ρ 0, ρ 1, ρ 2] (γ 0) 0 (ρ 2) (γ 3)
  refine Eq.symm ?_
  show fn126 [ρ 0, ρ 1] (γ 0) = _
  unfold fn126
  refine zLV (ρ 0) rfl (zLV (ρ 1) rfl (zLE m0 (zIP w_0 (zLE c1.symm (zLE c2.symm (zLE c3.symm ?_))))))
  rfl
theorem vn126_1 {S : Nat → zSpc}  {a : List Int} {g : rHp} : ∀ (ρ : Nat → Int) (γ : Nat → rHp), zO 3 S a g q126_1 ρ γ → zGl (fun _ _ _ => True) (sn126 a g) q126_1 ρ γ := by
  intro ρ γ h
  obtain ⟨ha, hg, hr, hf, hm, hc, hl⟩ := h
  have ha : a = [ρ 0, ρ 1, ρ 2] := ha
  subst ha
  subst hg
  have r2 : (20 : Int) ≤ ρ 2 ∧ ρ 2 ≤ 20 := zRnA hr 2
  have w_0 : ¬ (ρ 2 < 20) := by omega
  have m0 : γ 0 1 0 7 = ρ 2 := zAllA hm 0
  show sn126 [ρ 0, ρ 1, ρ 2] (γ 0) 0 (-1) (γ 0)
  refine Eq.symm ?_
  show fn126 [ρ 0, ρ 1] (γ 0) = _
  unfold fn126
  refine zLV (ρ 0) rfl (zLV (ρ 1) rfl (zLE m0 (zIN w_0 ?_)))
  rfl
theorem yn126 {S : Nat → zSpc}  : ∀ x g o v gz, zSem uW uT w126_.2.2.2.1 w126_.2.2.1.1.length S q126 (fun i => q126a.getD i []) (zNA a126_) x g o v gz → sn126 x g o v gz := by
  intro a g o v gz h
  exact zSem_all (l0 := q126) (las := q126a) (S := S) (J := (fun _ _ _ => True)) (P := sn126 a g) (fun _ => (show zAll _ [q126_0, q126_1] from (zAll_c (vn126_0 ) (zAll_c (vn126_1 ) zAll_n)))) (fun _ => (show zAllI _ 0 [] from trivial)) h
theorem vn127_0 {S : Nat → zSpc}  {a : List Int} {g : rHp} : ∀ (ρ : Nat → Int) (γ : Nat → rHp), zO 2 S a g q127_0 ρ γ → zGl (fun i vs g1 => jn127 a g i vs g1) (sn127 a g) q127_0 ρ γ := by
  intro ρ γ h
  obtain ⟨ha, hg, hr, hf, hm, hc, hl⟩ := h
  have ha : a = [ρ 0, ρ 1] := ha
  subst ha
  subst hg
  show jn127 [ρ 0, ρ 1] (γ 0) 0 [ρ 0, ρ 1, 0] (γ 0)
  have hD : dn127 [ρ 0, ρ 1] (γ 0) = .inl (0, [ρ 0, ρ 1, 0], γ 0) := by
    unfold dn127
    refine zLV (ρ 0) rfl (zLV (ρ 1) rfl ?_)
    rfl
  exact zGoo_to hD
theorem vn127a0_0 {S : Nat → zSpc}  {a : List Int} {g : rHp} : ∀ (ρ : Nat → Int) (γ : Nat → rHp), jn127 a g 0 (zAg (zNA a127_ 0) ρ) (γ 1) → zO 2 S a g q127a0_0 ρ γ → zGl (fun i vs g1 => jn127 a g i vs g1) (sn127 a g) q127a0_0 ρ γ := by
  intro ρ γ hJ h
  obtain ⟨ha, hg, hr, hf, hm, hc, hl⟩ := h
  have ha : a = [ρ 0, ρ 1] := ha
  subst ha
  subst hg
  have hJ : jn127 [ρ 0, ρ 1] (γ 0) 0 [ρ 0, ρ 1, ρ 2] (γ 1) := hJ
  have r2 : (4 : Int) ≤ ρ 2 ∧ ρ 2 ≤ 4 := zRnA hr 2
  have w_0 : ρ 2 ≥ 4 := by omega
  show sn127 [ρ 0, ρ 1] (γ 0) 0 1 (γ 1)
  have hD : en127 (γ 0) (0, [ρ 0, ρ 1, ρ 2], γ 1) = .inr (0, 1, γ 1) := by
    unfold en127
    refine zIP (show (0 : Nat) = 0 by decide) (zLV (γ 1) rfl (zLV (ρ 0) rfl (zLV (ρ 1) rfl (zLV (ρ 2) rfl (zIP w_0 ?_)))))
    rfl
  exact zGoo_aend hJ hD
theorem vn127a0_1 {S : Nat → zSpc}  {a : List Int} {g : rHp} : ∀ (ρ : Nat → Int) (γ : Nat → rHp), jn127 a g 0 (zAg (zNA a127_ 0) ρ) (γ 1) → zO 2 S a g q127a0_1 ρ γ → zGl (fun i vs g1 => jn127 a g i vs g1) (sn127 a g) q127a0_1 ρ γ := by
  intro ρ γ hJ h
  obtain ⟨ha, hg, hr, hf, hm, hc, hl⟩ := h
  have ha : a = [ρ 0, ρ 1] := ha
  subst ha
  subst hg
  have hJ : jn127 [ρ 0, ρ 1] (γ 0) 0 [ρ 0, ρ 1, ρ 2] (γ 1) := hJ
  have r2 : (0 : Int) ≤ ρ 2 ∧ ρ 2 ≤ 3 := zRnA hr 2
  have f0 : (0 : Int) ≤ ρ 4 + -ρ 3 := zAllA hf 0
  have f1 : (0 : Int) ≤ -ρ 4 + ρ 3 := zAllA hf 1
  obtain ⟨w_0, w_1⟩ : (¬ (ρ 2 ≥ 4)) ∧ (ρ 3 = ρ 4) := ⟨by omega, by omega⟩
  have m0 : γ 0 20 0 (ρ 2 + 4 * ρ 0) = ρ 3 := zAllA hm 0
  have m1 : γ 0 46 (ρ 1) (ρ 2) = ρ 4 := zAllA hm 1
  show jn127 [ρ 0, ρ 1] (γ 0) 0 [ρ 0, ρ 1, ρ 2 + 1] (γ 1)
  have hD : en127 (γ 0) (0, [ρ 0, ρ 1, ρ 2], γ 1) = .inl (0, [ρ 0, ρ 1, ρ 2 + 1], γ 1) := by
    unfold en127
    refine zIP (show (0 : Nat) = 0 by decide) (zLV (γ 1) rfl (zLV (ρ 0) rfl (zLV (ρ 1) rfl (zLV (ρ 2) rfl (zIN w_0 (zLE m0 (zLE m1 ?_)))))))
    refine zIP w_1 ?_
    rfl
  exact zGoo_ato hJ hD
theorem vn127a0_2 {S : Nat → zSpc}  {a : List Int} {g : rHp} : ∀ (ρ : Nat → Int) (γ : Nat → rHp), jn127 a g 0 (zAg (zNA a127_ 0) ρ) (γ 1) → zO 2 S a g q127a0_2 ρ γ → zGl (fun i vs g1 => jn127 a g i vs g1) (sn127 a g) q127a0_2 ρ γ := by
  intro ρ γ hJ h
  obtain ⟨ha, hg, hr, hf, hm, hc, hl⟩ := h
  have ha : a = [ρ 0, ρ 1] := ha
  subst ha
  subst hg
  have hJ : jn127 [ρ 0, ρ 1] (γ 0) 0 [ρ 0, ρ 1, ρ 2] (γ 1) := hJ
  have r2 : (0 : Int) ≤ ρ 2 ∧ ρ 2 ≤ 3 := zRnA hr 2
  have r3 : ((-9223372036854775808) : Int) ≤ ρ 3 ∧ ρ 3 ≤ 9223372036854775807 := zRnA hr 3
  have r4 : ((-9223372036854775808) : Int) ≤ ρ 4 ∧ ρ 4 ≤ 9223372036854775807 := zRnA hr 4
  have w_0 : ¬ (ρ 2 ≥ 4) := by omega
  have m0 : γ 0 20 0 (ρ 2 + 4 * ρ 0) = ρ 3 := zAllA hm 0
  have m1 : γ 0 46 (ρ 1) (ρ 2) = ρ 4 := zAllA hm 1
  have l0 : ρ 3 ≠ ρ 4 := zAllA hl 0
  have wl_0 : ¬ (ρ 3 = ρ 4) := by omega
  show sn127 [ρ 0, ρ 1] (γ 0) 0 0 (γ 1)
  have hD : en127 (γ 0) (0, [ρ 0, ρ 1, ρ 2], γ 1) = .inr (0, 0, γ 1) := by
    unfold en127
    refine zIP (show (0 : Nat) = 0 by decide) (zLV (γ 1) rfl (zLV (ρ 0) rfl (zLV (ρ 1) rfl (zLV (ρ 2) rfl (zIN w_0 (zLE m0 (zLE m1 ?_)))))))
    refine zIN wl_0 ?_
    rfl
  exact zGoo_aend hJ hD
theorem yn127 {S : Nat → zSpc}  : ∀ x g o v gz, zSem uW uT w127_.2.2.2.1 w127_.2.2.1.1.length S q127 (fun i => q127a.getD i []) (zNA a127_) x g o v gz → sn127 x g o v gz := by
  intro a g o v gz h
  exact zSem_all (l0 := q127) (las := q127a) (S := S) (J := (fun i vs g1 => jn127 a g i vs g1)) (P := sn127 a g) (fun _ => (show zAll _ [q127_0] from (zAll_c (vn127_0 ) zAll_n))) (fun _ => (show zAllI _ 0 [q127a0] from ⟨(show zAll _ [q127a0_0, q127a0_1, q127a0_2] from (zAll_c (vn127a0_0 ) (zAll_c (vn127a0_1 ) (zAll_c (vn127a0_2 ) zAll_n)))), trivial⟩)) h
theorem vn128_0 {S : Nat → zSpc} (hS127 : zIm S 127 sn127) {a : List Int} {g : rHp} : ∀ (ρ : Nat → Int) (γ : Nat → rHp), zO 3 S a g q128_0 ρ γ → zGl (fun i vs g1 => jn128 a g i vs g1) (sn128 a g) q128_0 ρ γ := by
  intro ρ γ h
  obtain ⟨ha, hg, hr, hf, hm, hc, hl⟩ := h
  have ha : a = [ρ 0, ρ 1, ρ 2] := ha
  subst ha
  subst hg
  show jn128 [ρ 0, ρ 1, ρ 2] (γ 0) 0 [ρ 0, ρ 1, ρ 2, 0] (γ 0)
  have hD : dn128 [ρ 0] (γ 0) = .inl (0, [ρ 0, 0], γ 0) := by
    unfold dn128
    refine zLV (ρ 0) rfl ?_
    rfl
  exact zGoo_to hD
theorem vn128a0_0 {S : Nat → zSpc} (hS127 : zIm S 127 sn127) {a : List Int} {g : rHp} : ∀ (ρ : Nat → Int) (γ : Nat → rHp), jn128 a g 0 (zAg (zNA a128_ 0) ρ) (γ 1) → zO 3 S a g q128a0_0 ρ γ → zGl (fun i vs g1 => jn128 a g i vs g1) (sn128 a g) q128a0_0 ρ γ := by
  intro ρ γ hJ h
  obtain ⟨ha, hg, hr, hf, hm, hc, hl⟩ := h
  have ha : a = [ρ 0, ρ 1, ρ 2] := ha
  subst ha
  subst hg
  have hJ : jn128 [ρ 0, ρ 1, ρ 2] (γ 0) 0 [ρ 0, ρ 1, ρ 2, ρ 3] (γ 1) := hJ
  have f0 : (0 : Int) ≤ ρ 3 + -ρ 1 := zAllA hf 0
  have w_0 : ρ 3 ≥ ρ 1 := by omega
  have m0 : γ 0 1 0 9 = ρ 1 := zAllA hm 0
  have m1 : γ 0 10 (ρ 0) 8 = ρ 2 := zAllA hm 1
  show sn128 [ρ 0, ρ 1, ρ 2] (γ 0) 0 (-1) (γ 1)
  have hD : en128 (γ 0) (0, [ρ 0, ρ 3], γ 1) = .inr (0, (-1), γ 1) := by
    unfold en128
    refine zIP (show (0 : Nat) = 0 by decide) (zLV (γ 1) rfl (zLV (ρ 0) rfl (zLV (ρ 3) rfl (zLE m0 (zLE m1 (zIP w_0 ?_))))))
    rfl
  exact zGoo_aend hJ hD
theorem vn128a0_1 {S : Nat → zSpc} (hS127 : zIm S 127 sn127) {a : List Int} {g : rHp} : ∀ (ρ : Nat → Int) (γ : Nat → rHp), jn128 a g 0 (zAg (zNA a128_ 0) ρ) (γ 1) → zO 3 S a g q128a0_1 ρ γ → zGl (fun i vs g1 => jn128 a g i vs g1) (sn128 a g) q128a0_1 ρ γ := by
  intro ρ γ hJ h
  obtain ⟨ha, hg, hr, hf, hm, hc, hl⟩ := h
  have ha : a = [ρ 0, ρ 1, ρ 2] := ha
  subst ha
  subst hg
  have hJ : jn128 [ρ 0, ρ 1, ρ 2] (γ 0) 0 [ρ 0, ρ 1, ρ 2, ρ 3] (γ 1) := hJ
  have r2 : ((-1) : Int) ≤ ρ 2 ∧ ρ 2 ≤ 19 := zRnA hr 2
  have r4 : (0 : Int) ≤ ρ 4 ∧ ρ 4 ≤ 19 := zRnA hr 4
  have f0 : (0 : Int) ≤ -ρ 3 + ρ 1 + (-1) := zAllA hf 0
  have w_0 : ¬ (ρ 3 ≥ ρ 1) := by omega
  have m0 : γ 0 1 0 9 = ρ 1 := zAllA hm 0
  have m1 : γ 0 10 (ρ 0) 8 = ρ 2 := zAllA hm 1
  have m2 : γ 0 19 0 (ρ 3) = ρ 4 := zAllA hm 2
  have l0 : ρ 4 ≠ ρ 2 := zAllA hl 0
  have wl_0 : ρ 4 ≠ ρ 2 := by omega
  show jn128 [ρ 0, ρ 1, ρ 2] (γ 0) 0 [ρ 0, ρ 1, ρ 2, ρ 3 + 1] (γ 1)
  have hD : en128 (γ 0) (0, [ρ 0, ρ 3], γ 1) = .inl (0, [ρ 0, ρ 3 + 1], γ 1) := by
    unfold en128
    refine zIP (show (0 : Nat) = 0 by decide) (zLV (γ 1) rfl (zLV (ρ 0) rfl (zLV (ρ 3) rfl (zLE m0 (zLE m1 (zIN w_0 (zLE m2 ?_)))))))
    refine zIP wl_0 ?_
    rfl
  exact zGoo_ato hJ hD
theorem vn128a0_2 {S : Nat → zSpc} (hS127 : zIm S 127 sn127) {a : List Int} {g : rHp} : ∀ (ρ : Nat → Int) (γ : Nat → rHp), jn128 a g 0 (zAg (zNA a128_ 0) ρ) (γ 1) → zO 3 S a g q128a0_2 ρ γ → zGl (fun i vs g1 => jn128 a g i vs g1) (sn128 a g) q128a0_2 ρ γ := by
  intro ρ γ hJ h
  obtain ⟨ha, hg, hr, hf, hm, hc, hl⟩ := h
  have ha : a = [ρ 0, ρ 1, ρ 2] := ha
  subst ha
  subst hg
  have hJ : jn128 [ρ 0, ρ 1, ρ 2] (γ 0) 0 [ρ 0, ρ 1, ρ 2, ρ 3] (γ 1) := hJ
  have f0 : (0 : Int) ≤ -ρ 4 + ρ 2 := zAllA hf 0
  have f1 : (0 : Int) ≤ ρ 4 + -ρ 2 := zAllA hf 1
  have f2 : (0 : Int) ≤ -ρ 3 + ρ 1 + (-1) := zAllA hf 2
  obtain ⟨w_0, w_1⟩ : (¬ (ρ 3 ≥ ρ 1)) ∧ (¬ (ρ 4 ≠ ρ 2)) := ⟨by omega, by omega⟩
  have m0 : γ 0 1 0 9 = ρ 1 := zAllA hm 0
  have m1 : γ 0 10 (ρ 0) 8 = ρ 2 := zAllA hm 1
  have m2 : γ 0 19 0 (ρ 3) = ρ 4 := zAllA hm 2
  have l0 : sn127 [ρ 3, ρ 0] (γ 1) 0 0 (γ 2) := hS127 _ _ _ _ _ (zAllA hl 0)
  show jn128 [ρ 0, ρ 1, ρ 2] (γ 0) 0 [ρ 0, ρ 1, ρ 2, ρ 3 + 1] (γ 2)
  have hD : en128 (γ 0) (0, [ρ 0, ρ 3], γ 1) = .inl (0, [ρ 0, ρ 3 + 1], γ 2) := by
    unfold en128
    refine zIP (show (0 : Nat) = 0 by decide) (zLV (γ 1) rfl (zLV (ρ 0) rfl (zLV (ρ 3) rfl (zLE m0 (zLE m1 (zIN w_0 (zLE m2 ?_)))))))
    refine zIN w_1 (zLE (show fn127 [ρ 3, ρ 0] (γ 1) = (0, 0, γ 2) from l0.symm) (zLV (γ 2) rfl (zIN zQ0_ ?_)))
    rfl
  exact zGoo_ato hJ hD
theorem vn128a0_3 {S : Nat → zSpc} (hS127 : zIm S 127 sn127) {a : List Int} {g : rHp} : ∀ (ρ : Nat → Int) (γ : Nat → rHp), jn128 a g 0 (zAg (zNA a128_ 0) ρ) (γ 1) → zO 3 S a g q128a0_3 ρ γ → zGl (fun i vs g1 => jn128 a g i vs g1) (sn128 a g) q128a0_3 ρ γ := by
  intro ρ γ hJ h
  obtain ⟨ha, hg, hr, hf, hm, hc, hl⟩ := h
  have ha : a = [ρ 0, ρ 1, ρ 2] := ha
  subst ha
  subst hg
  have hJ : jn128 [ρ 0, ρ 1, ρ 2] (γ 0) 0 [ρ 0, ρ 1, ρ 2, ρ 3] (γ 1) := hJ
  have f0 : (0 : Int) ≤ -ρ 4 + ρ 2 := zAllA hf 0
  have f1 : (0 : Int) ≤ ρ 4 + -ρ 2 := zAllA hf 1
  have f2 : (0 : Int) ≤ -ρ 3 + ρ 1 + (-1) := zAllA hf 2
  obtain ⟨w_0, w_1⟩ : (¬ (ρ 3 ≥ ρ 1)) ∧ (¬ (ρ 4 ≠ ρ 2)) := ⟨by omega, by omega⟩
  have m0 : γ 0 1 0 9 = ρ 1 := zAllA hm 0
  have m1 : γ 0 10 (ρ 0) 8 = ρ 2 := zAllA hm 1
  have m2 : γ 0 19 0 (ρ 3) = ρ 4 := zAllA hm 2
  have l0 : sn127 [ρ 3, ρ 0] (γ 1) 0 1 (γ 2) := hS127 _ _ _ _ _ (zAllA hl 0)
  show sn128 [ρ 0, ρ 1, ρ 2] (γ 0) 0 (ρ 3) (γ 2)
  have hD : en128 (γ 0) (0, [ρ 0, ρ 3], γ 1) = .inr (0, ρ 3, γ 2) := by
    unfold en128
    refine zIP (show (0 : Nat) = 0 by decide) (zLV (γ 1) rfl (zLV (ρ 0) rfl (zLV (ρ 3) rfl (zLE m0 (zLE m1 (zIN w_0 (zLE m2 ?_)))))))
    refine zIN w_1 (zLE (show fn127 [ρ 3, ρ 0] (γ 1) = (0, 1, γ 2) from l0.symm) (zLV (γ 2) rfl (zIP zQ1_ ?_)))
    rfl
  exact zGoo_aend hJ hD
theorem yn128 {S : Nat → zSpc} (hS127 : zIm S 127 sn127) : ∀ x g o v gz, zSem uW uT w128_.2.2.2.1 w128_.2.2.1.1.length S q128 (fun i => q128a.getD i []) (zNA a128_) x g o v gz → sn128 x g o v gz := by
  intro a g o v gz h
  exact zSem_all (l0 := q128) (las := q128a) (S := S) (J := (fun i vs g1 => jn128 a g i vs g1)) (P := sn128 a g) (fun _ => (show zAll _ [q128_0] from (zAll_c (vn128_0 hS127) zAll_n))) (fun _ => (show zAllI _ 0 [q128a0] from ⟨(show zAll _ [q128a0_0, q128a0_1, q128a0_2, q128a0_3] from (zAll_c (vn128a0_0 hS127) (zAll_c (vn128a0_1 hS127) (zAll_c (vn128a0_2 hS127) (zAll_c (vn128a0_3 hS127) zAll_n))))), trivial⟩)) h
theorem vn129_0 {S : Nat → zSpc}  {a : List Int} {g : rHp} : ∀ (ρ : Nat → Int) (γ : Nat → rHp), zO 3 S a g q129_0 ρ γ → zGl (fun _ _ _ => True) (sn129 a g) q129_0 ρ γ := by
  intro ρ γ h
  obtain ⟨ha, hg, hr, hf, hm, hc, hl⟩ := h
  have ha : a = [ρ 0, ρ 1, ρ 2] := ha
  subst ha
  subst hg
  have r2 : (0 : Int) ≤ ρ 2 ∧ ρ 2 ≤ 399 := zRnA hr 2
  have w_0 : ρ 2 < 400 := by omega
  have m0 : γ 0 10 (ρ 0) 8 = ρ 1 := zAllA hm 0
  have m1 : γ 0 1 0 9 = ρ 2 := zAllA hm 1
  have c1 : γ 1 = rUp (γ 0) 19 0 (ρ 2) (ρ 1) := And.right (zChA hc 2)
  have c3 : γ 3 = rUp (γ 2) 1 0 9 (ρ 2 + 1) := And.right (zChA hc 0)
  have l0 : γ 2 = zCpy (γ 1) 46 (ρ 0) 0 20 0 (4 * ρ 2) 4 := zAllA hl 0
  show sn129 [ρ 0, ρ 1, ρ 2] (γ 0) 0 1 (γ 3)
  refine Eq.symm ?_
  show fn129 [ρ 0] (γ 0) = _
  unfold fn129
  refine zLV (ρ 0) rfl (zLE m0 (zLE m1 (zIP w_0 (zLE c1.symm (zLE l0.symm (zLE c3.symm ?_))))))
  rfl
theorem vn129_1 {S : Nat → zSpc}  {a : List Int} {g : rHp} : ∀ (ρ : Nat → Int) (γ : Nat → rHp), zO 3 S a g q129_1 ρ γ → zGl (fun _ _ _ => True) (sn129 a g) q129_1 ρ γ := by
  intro ρ γ h
  obtain ⟨ha, hg, hr, hf, hm, hc, hl⟩ := h
  have ha : a = [ρ 0, ρ 1, ρ 2] := ha
  subst ha
  subst hg
  have r2 : (400 : Int) ≤ ρ 2 ∧ ρ 2 ≤ 400 := zRnA hr 2
  have w_0 : ¬ (ρ 2 < 400) := by omega
  have m0 : γ 0 10 (ρ 0) 8 = ρ 1 := zAllA hm 0
  have m1 : γ 0 1 0 9 = ρ 2 := zAllA hm 1
  show sn129 [ρ 0, ρ 1, ρ 2] (γ 0) 0 0 (γ 0)
  refine Eq.symm ?_
  show fn129 [ρ 0] (γ 0) = _
  unfold fn129
  refine zLV (ρ 0) rfl (zLE m0 (zLE m1 (zIN w_0 ?_)))
  rfl
theorem yn129 {S : Nat → zSpc}  : ∀ x g o v gz, zSem uW uT w129_.2.2.2.1 w129_.2.2.1.1.length S q129 (fun i => q129a.getD i []) (zNA a129_) x g o v gz → sn129 x g o v gz := by
  intro a g o v gz h
  exact zSem_all (l0 := q129) (las := q129a) (S := S) (J := (fun _ _ _ => True)) (P := sn129 a g) (fun _ => (show zAll _ [q129_0, q129_1] from (zAll_c (vn129_0 ) (zAll_c (vn129_1 ) zAll_n)))) (fun _ => (show zAllI _ 0 [] from trivial)) h
theorem vn130_0 {S : Nat → zSpc}  {a : List Int} {g : rHp} : ∀ (ρ : Nat → Int) (γ : Nat → rHp), zO 2 S a g q130_0 ρ γ → zGl (fun _ _ _ => True) (sn130 a g) q130_0 ρ γ := by
  intro ρ γ h
  obtain ⟨ha, hg, hr, hf, hm, hc, hl⟩ := h
  have ha : a = [ρ 0, ρ 1] := ha
  subst ha
  subst hg
  have f0 : (0 : Int) ≤ ρ 1 + -ρ 0 + (-1) := zAllA hf 0
  have w_0 : ρ 1 + -ρ 0 + (-1) ≥ 0 := by omega
  have m0 : γ 0 1 0 9 = ρ 1 := zAllA hm 0
  have c3 : γ 3 = rUp (γ 2) 1 0 9 (ρ 1 + (-1)) := And.right (zChA hc 0)
  have l0 : γ 1 = zCpy (γ 0) 19 0 (ρ 0 + 1) 19 0 (ρ 0) (ρ 1 + -ρ 0 + (-1)) := zAllA hl 0
  have l1 : γ 2 = zCpy (γ 1) 20 0 (4 * ρ 0 + 4) 20 0 (4 * ρ 0) (4 * ρ 1 + (-4) * ρ 0 + (-4)) := zAllA hl 1
  show sn130 [ρ 0, ρ 1] (γ 0) 0 0 (γ 3)
  refine Eq.symm ?_
  show fn130 [ρ 0] (γ 0) = _
  unfold fn130
  refine zLV (ρ 0) rfl (zLE m0 (zIP w_0 (zLE l0.symm (zLE l1.symm (zLE c3.symm ?_)))))
  rfl
theorem vn130_1 {S : Nat → zSpc}  {a : List Int} {g : rHp} : ∀ (ρ : Nat → Int) (γ : Nat → rHp), zO 2 S a g q130_1 ρ γ → zGl (fun _ _ _ => True) (sn130 a g) q130_1 ρ γ := by
  intro ρ γ h
  obtain ⟨ha, hg, hr, hf, hm, hc, hl⟩ := h
  have ha : a = [ρ 0, ρ 1] := ha
  subst ha
  subst hg
  have f0 : (0 : Int) ≤ -ρ 1 + ρ 0 := zAllA hf 0
  have w_0 : ¬ (ρ 1 + -ρ 0 + (-1) ≥ 0) := by omega
  have m0 : γ 0 1 0 9 = ρ 1 := zAllA hm 0
  show sn130 [ρ 0, ρ 1] (γ 0) 0 0 (γ 0)
  refine Eq.symm ?_
  show fn130 [ρ 0] (γ 0) = _
  unfold fn130
  refine zLV (ρ 0) rfl (zLE m0 (zIN w_0 ?_))
  rfl
theorem yn130 {S : Nat → zSpc}  : ∀ x g o v gz, zSem uW uT w130_.2.2.2.1 w130_.2.2.1.1.length S q130 (fun i => q130a.getD i []) (zNA a130_) x g o v gz → sn130 x g o v gz := by
  intro a g o v gz h
  exact zSem_all (l0 := q130) (las := q130a) (S := S) (J := (fun _ _ _ => True)) (P := sn130 a g) (fun _ => (show zAll _ [q130_0, q130_1] from (zAll_c (vn130_0 ) (zAll_c (vn130_1 ) zAll_n)))) (fun _ => (show zAllI _ 0 [] from trivial)) h
theorem vn131_0 {S : Nat → zSpc}  {a : List Int} {g : rHp} : ∀ (ρ : Nat → Int) (γ : Nat → rHp), zO 2 S a g q131_0 ρ γ → zGl (fun _ _ _ => True) (sn131 a g) q131_0 ρ γ := by
  intro ρ γ h
  obtain ⟨ha, hg, hr, hf, hm, hc, hl⟩ := h
  have ha : a = [ρ 0, ρ 1] := ha
  subst ha
  subst hg
  have m0 : γ 0 40 0 (ρ 0) = ρ 1 := zAllA hm 0
  show sn131 [ρ 0, ρ 1] (γ 0) 0 (ρ 1) (γ 0)
  refine Eq.symm ?_
  show fn131 [ρ 0] (γ 0) = _
  unfold fn131
  refine zLV (ρ 0) rfl (zLE m0 ?_)
  rfl
theorem yn131 {S : Nat → zSpc}  : ∀ x g o v gz, zSem uW uT w131_.2.2.2.1 w131_.2.2.1.1.length S q131 (fun i => q131a.getD i []) (zNA a131_) x g o v gz → sn131 x g o v gz := by
  intro a g o v gz h
  exact zSem_all (l0 := q131) (las := q131a) (S := S) (J := (fun _ _ _ => True)) (P := sn131 a g) (fun _ => (show zAll _ [q131_0] from (zAll_c (vn131_0 ) zAll_n))) (fun _ => (show zAllI _ 0 [] from trivial)) h
theorem vn132_0 {S : Nat → zSpc}  {a : List Int} {g : rHp} : ∀ (ρ : Nat → Int) (γ : Nat → rHp), zO 2 S a g q132_0 ρ γ → zGl (fun _ _ _ => True) (sn132 a g) q132_0 ρ γ := by
  intro ρ γ h
  obtain ⟨ha, hg, hr, hf, hm, hc, hl⟩ := h
  have ha : a = [ρ 0, ρ 1] := ha
  subst ha
  subst hg
  show sn132 [ρ 0, ρ 1] (γ 0) 0 (ρ 1 + 9 * ρ 0 + 1) (γ 0)
  refine Eq.symm ?_
  show fn132 [ρ 0, ρ 1] (γ 0) = _
  unfold fn132
  refine zLV (ρ 0) rfl (zLV (ρ 1) rfl ?_)
  rfl
theorem yn132 {S : Nat → zSpc}  : ∀ x g o v gz, zSem uW uT w132_.2.2.2.1 w132_.2.2.1.1.length S q132 (fun i => q132a.getD i []) (zNA a132_) x g o v gz → sn132 x g o v gz := by
  intro a g o v gz h
  exact zSem_all (l0 := q132) (las := q132a) (S := S) (J := (fun _ _ _ => True)) (P := sn132 a g) (fun _ => (show zAll _ [q132_0] from (zAll_c (vn132_0 ) zAll_n))) (fun _ => (show zAllI _ 0 [] from trivial)) h
theorem vn133_0 {S : Nat → zSpc} (hS109 : zIm S 109 sn109) (hS125 : zIm S 125 sn125) (hS126 : zIm S 126 sn126) {a : List Int} {g : rHp} : ∀ (ρ : Nat → Int) (γ : Nat → rHp), zO 9 S a g q133_0 ρ γ → zGl (fun _ _ _ => True) (sn133 a g) q133_0 ρ γ := by
  intro ρ γ h
  obtain ⟨ha, hg, hr, hf, hm, hc, hl⟩ := h
  have ha : a = [ρ 0, ρ 1, ρ 2, ρ 3, ρ 4, ρ 5, ρ 6, ρ 7, ρ 8] := ha
  subst ha
  subst hg
  have r10 : (0 : Int) ≤ ρ 10 ∧ ρ 10 ≤ 20 := zRnA hr 10
  have w_0 : ρ 10 ≥ 0 := by omega
  have m0 : γ 0 1 0 10 = ρ 0 := zAllA hm 0
  have m1 : γ 0 40 0 (ρ 0) = ρ 1 := zAllA hm 1
  have m3 : γ 0 2 0 7 = ρ 3 := zAllA hm 3
  have m7 : γ 0 10 (9 * ρ 1) 5 = ρ 7 := zAllA hm 7
  have m8 : γ 0 10 (9 * ρ 1) 7 = ρ 8 := zAllA hm 8
  have m9 : γ 0 10 (9 * ρ 1) 6 = ρ 9 := zAllA hm 9
  have c2 : γ 2 = rUp (γ 1) 10 (9 * ρ 1) 8 (ρ 10) := And.right (zChA hc 0)
  have l0 : sn125 [ρ 9, ρ 7, ρ 5] (γ 0) 0 (ρ 10) (γ 1) := hS125 _ _ _ _ _ (zAllA hl 0)
  show sn133 [ρ 0, ρ 1, ρ 2, ρ 3, ρ 4, ρ 5, ρ 6, ρ 7, ρ 8] (γ 0) 0 1 (γ 2)
  refine Eq.symm ?_
  show fn133 [] (γ 0) = _
  unfold fn133
  refine zLE m0 (zLE m1 (zLE m3 (zLE m7 (zLE m8 (zLE m9 (zLE (show fn125 [ρ 9, ρ 7] (γ 0) = (0, ρ 10, γ 1) from l0.symm) (zLV (γ 1) rfl ?_)))))))
  refine zLV (ρ 10) rfl (zLE c2.symm (zIP w_0 ?_))
  rfl
theorem vn133_1 {S : Nat → zSpc} (hS109 : zIm S 109 sn109) (hS125 : zIm S 125 sn125) (hS126 : zIm S 126 sn126) {a : List Int} {g : rHp} : ∀ (ρ : Nat → Int) (γ : Nat → rHp), zO 9 S a g q133_1 ρ γ → zGl (fun _ _ _ => True) (sn133 a g) q133_1 ρ γ := by
  intro ρ γ h
  obtain ⟨ha, hg, hr, hf, hm, hc, hl⟩ := h
  have ha : a = [ρ 0, ρ 1, ρ 2, ρ 3, ρ 4, ρ 5, ρ 6, ρ 7, ρ 8] := ha
  subst ha
  subst hg
  have r3 : (1 : Int) ≤ ρ 3 ∧ ρ 3 ≤ 1 := zRnA hr 3
  have r10 : ((-1) : Int) ≤ ρ 10 ∧ ρ 10 ≤ (-1) := zRnA hr 10
  obtain ⟨w_0, w_1, w_2⟩ : (¬ (ρ 10 ≥ 0)) ∧ (ρ 3 ≠ 0) ∧ (ρ 3 = 1) := ⟨by omega, by omega, by omega⟩
  have m0 : γ 0 1 0 10 = ρ 0 := zAllA hm 0
  have m1 : γ 0 40 0 (ρ 0) = ρ 1 := zAllA hm 1
  have m3 : γ 0 2 0 7 = ρ 3 := zAllA hm 3
  have m7 : γ 0 10 (9 * ρ 1) 5 = ρ 7 := zAllA hm 7
  have m8 : γ 0 10 (9 * ρ 1) 7 = ρ 8 := zAllA hm 8
  have m9 : γ 0 10 (9 * ρ 1) 6 = ρ 9 := zAllA hm 9
  have c2 : γ 2 = rUp (γ 1) 10 (9 * ρ 1) 8 (ρ 10) := And.right (zChA hc 0)
  have l0 : sn125 [ρ 9, ρ 7, ρ 5] (γ 0) 0 (ρ 10) (γ 1) := hS125 _ _ _ _ _ (zAllA hl 0)
  show sn133 [ρ 0, ρ 1, ρ 2, ρ 3, ρ 4, ρ 5, ρ 6, ρ 7, ρ 8] (γ 0) 0 1 (γ 2)
  refine Eq.symm ?_
  show fn133 [] (γ 0) = _
  unfold fn133
  refine zLE m0 (zLE m1 (zLE m3 (zLE m7 (zLE m8 (zLE m9 (zLE (show fn125 [ρ 9, ρ 7] (γ 0) = (0, ρ 10, γ 1) from l0.symm) (zLV (γ 1) rfl ?_)))))))
  refine zLV (ρ 10) rfl (zLE c2.symm (zIN w_0 (zIP w_1 (zIP w_2 ?_))))
  rfl
theorem vn133_2 {S : Nat → zSpc} (hS109 : zIm S 109 sn109) (hS125 : zIm S 125 sn125) (hS126 : zIm S 126 sn126) {a : List Int} {g : rHp} : ∀ (ρ : Nat → Int) (γ : Nat → rHp), zO 9 S a g q133_2 ρ γ → zGl (fun _ _ _ => True) (sn133 a g) q133_2 ρ γ := by
  intro ρ γ h
  obtain ⟨ha, hg, hr, hf, hm, hc, hl⟩ := h
  have ha : a = [ρ 0, ρ 1, ρ 2, ρ 3, ρ 4, ρ 5, ρ 6, ρ 7, ρ 8] := ha
  subst ha
  subst hg
  have r3 : (2 : Int) ≤ ρ 3 ∧ ρ 3 ≤ 2 := zRnA hr 3
  have r10 : ((-1) : Int) ≤ ρ 10 ∧ ρ 10 ≤ (-1) := zRnA hr 10
  obtain ⟨w_0, w_1, w_2⟩ : (¬ (ρ 10 ≥ 0)) ∧ (ρ 3 ≠ 0) ∧ (¬ (ρ 3 = 1)) := ⟨by omega, by omega, by omega⟩
  have m0 : γ 0 1 0 10 = ρ 0 := zAllA hm 0
  have m1 : γ 0 40 0 (ρ 0) = ρ 1 := zAllA hm 1
  have m3 : γ 0 2 0 7 = ρ 3 := zAllA hm 3
  have m7 : γ 0 10 (9 * ρ 1) 5 = ρ 7 := zAllA hm 7
  have m8 : γ 0 10 (9 * ρ 1) 7 = ρ 8 := zAllA hm 8
  have m9 : γ 0 10 (9 * ρ 1) 6 = ρ 9 := zAllA hm 9
  have c2 : γ 2 = rUp (γ 1) 10 (9 * ρ 1) 8 (ρ 10) := And.right (zChA hc 1)
  have l0 : sn125 [ρ 9, ρ 7, ρ 5] (γ 0) 0 (ρ 10) (γ 1) := hS125 _ _ _ _ _ (zAllA hl 0)
  have l1 : sn109 [ρ 8, ρ 6] (γ 2) 0 0 (γ 3) := hS109 _ _ _ _ _ (zAllA hl 1)
  show sn133 [ρ 0, ρ 1, ρ 2, ρ 3, ρ 4, ρ 5, ρ 6, ρ 7, ρ 8] (γ 0) 0 0 (γ 3)
  refine Eq.symm ?_
  show fn133 [] (γ 0) = _
  unfold fn133
  refine zLE m0 (zLE m1 (zLE m3 (zLE m7 (zLE m8 (zLE m9 (zLE (show fn125 [ρ 9, ρ 7] (γ 0) = (0, ρ 10, γ 1) from l0.symm) (zLV (γ 1) rfl ?_)))))))
  refine zLV (ρ 10) rfl (zLE c2.symm (zIN w_0 (zIP w_1 (zIN w_2 (zLE (show fn109 [ρ 8] (γ 2) = (0, 0, γ 3) from l1.symm) (zLV (γ 3) rfl ?_))))))
  rfl
theorem vn133_3 {S : Nat → zSpc} (hS109 : zIm S 109 sn109) (hS125 : zIm S 125 sn125) (hS126 : zIm S 126 sn126) {a : List Int} {g : rHp} : ∀ (ρ : Nat → Int) (γ : Nat → rHp), zO 9 S a g q133_3 ρ γ → zGl (fun _ _ _ => True) (sn133 a g) q133_3 ρ γ := by
  intro ρ γ h
  obtain ⟨ha, hg, hr, hf, hm, hc, hl⟩ := h
  have ha : a = [ρ 0, ρ 1, ρ 2, ρ 3, ρ 4, ρ 5, ρ 6, ρ 7, ρ 8] := ha
  subst ha
  subst hg
  have r3 : (0 : Int) ≤ ρ 3 ∧ ρ 3 ≤ 0 := zRnA hr 3
  have r10 : ((-1) : Int) ≤ ρ 10 ∧ ρ 10 ≤ (-1) := zRnA hr 10
  have r11 : (0 : Int) ≤ ρ 11 ∧ ρ 11 ≤ 19 := zRnA hr 11
  obtain ⟨w_0, w_1, w_2⟩ : (¬ (ρ 10 ≥ 0)) ∧ (¬ (ρ 3 ≠ 0)) ∧ (ρ 11 ≥ 0) := ⟨by omega, by omega, by omega⟩
  have m0 : γ 0 1 0 10 = ρ 0 := zAllA hm 0
  have m1 : γ 0 40 0 (ρ 0) = ρ 1 := zAllA hm 1
  have m3 : γ 0 2 0 7 = ρ 3 := zAllA hm 3
  have m7 : γ 0 10 (9 * ρ 1) 5 = ρ 7 := zAllA hm 7
  have m8 : γ 0 10 (9 * ρ 1) 7 = ρ 8 := zAllA hm 8
  have m9 : γ 0 10 (9 * ρ 1) 6 = ρ 9 := zAllA hm 9
  have c2 : γ 2 = rUp (γ 1) 10 (9 * ρ 1) 8 (ρ 10) := And.right (zChA hc 2)
  have c4 : γ 4 = rUp (γ 3) 10 (9 * ρ 1) 8 (ρ 11) := And.right (zChA hc 0)
  have l0 : sn125 [ρ 9, ρ 7, ρ 5] (γ 0) 0 (ρ 10) (γ 1) := hS125 _ _ _ _ _ (zAllA hl 0)
  have l1 : sn126 [ρ 9, ρ 7, ρ 5] (γ 2) 0 (ρ 11) (γ 3) := hS126 _ _ _ _ _ (zAllA hl 1)
  show sn133 [ρ 0, ρ 1, ρ 2, ρ 3, ρ 4, ρ 5, ρ 6, ρ 7, ρ 8] (γ 0) 0 1 (γ 4)
  refine Eq.symm ?_
  show fn133 [] (γ 0) = _
  unfold fn133
  refine zLE m0 (zLE m1 (zLE m3 (zLE m7 (zLE m8 (zLE m9 (zLE (show fn125 [ρ 9, ρ 7] (γ 0) = (0, ρ 10, γ 1) from l0.symm) (zLV (γ 1) rfl ?_)))))))
  refine zLV (ρ 10) rfl (zLE c2.symm (zIN w_0 (zIN w_1 (zLE (show fn126 [ρ 9, ρ 7] (γ 2) = (0, ρ 11, γ 3) from l1.symm) (zLV (γ 3) rfl (zLV (ρ 11) rfl (zLE c4.symm ?_)))))))
  refine zIP w_2 ?_
  rfl
theorem vn133_4 {S : Nat → zSpc} (hS109 : zIm S 109 sn109) (hS125 : zIm S 125 sn125) (hS126 : zIm S 126 sn126) {a : List Int} {g : rHp} : ∀ (ρ : Nat → Int) (γ : Nat → rHp), zO 9 S a g q133_4 ρ γ → zGl (fun _ _ _ => True) (sn133 a g) q133_4 ρ γ := by
  intro ρ γ h
  obtain ⟨ha, hg, hr, hf, hm, hc, hl⟩ := h
  have ha : a = [ρ 0, ρ 1, ρ 2, ρ 3, ρ 4, ρ 5, ρ 6, ρ 7, ρ 8] := ha
  subst ha
  subst hg
  have r3 : (0 : Int) ≤ ρ 3 ∧ ρ 3 ≤ 0 := zRnA hr 3
  have r10 : ((-1) : Int) ≤ ρ 10 ∧ ρ 10 ≤ (-1) := zRnA hr 10
  have r11 : ((-1) : Int) ≤ ρ 11 ∧ ρ 11 ≤ (-1) := zRnA hr 11
  obtain ⟨w_0, w_1, w_2⟩ : (¬ (ρ 10 ≥ 0)) ∧ (¬ (ρ 3 ≠ 0)) ∧ (¬ (ρ 11 ≥ 0)) := ⟨by omega, by omega, by omega⟩
  have m0 : γ 0 1 0 10 = ρ 0 := zAllA hm 0
  have m1 : γ 0 40 0 (ρ 0) = ρ 1 := zAllA hm 1
  have m3 : γ 0 2 0 7 = ρ 3 := zAllA hm 3
  have m7 : γ 0 10 (9 * ρ 1) 5 = ρ 7 := zAllA hm 7
  have m8 : γ 0 10 (9 * ρ 1) 7 = ρ 8 := zAllA hm 8
  have m9 : γ 0 10 (9 * ρ 1) 6 = ρ 9 := zAllA hm 9
  have c2 : γ 2 = rUp (γ 1) 10 (9 * ρ 1) 8 (ρ 10) := And.right (zChA hc 3)
  have c4 : γ 4 = rUp (γ 3) 10 (9 * ρ 1) 8 (ρ 11) := And.right (zChA hc 1)
  have l0 : sn125 [ρ 9, ρ 7, ρ 5] (γ 0) 0 (ρ 10) (γ 1) := hS125 _ _ _ _ _ (zAllA hl 0)
  have l1 : sn126 [ρ 9, ρ 7, ρ 5] (γ 2) 0 (ρ 11) (γ 3) := hS126 _ _ _ _ _ (zAllA hl 1)
  have l2 : sn109 [ρ 8, ρ 6] (γ 4) 0 0 (γ 5) := hS109 _ _ _ _ _ (zAllA hl 2)
  show sn133 [ρ 0, ρ 1, ρ 2, ρ 3, ρ 4, ρ 5, ρ 6, ρ 7, ρ 8] (γ 0) 0 0 (γ 5)
  refine Eq.symm ?_
  show fn133 [] (γ 0) = _
  unfold fn133
  refine zLE m0 (zLE m1 (zLE m3 (zLE m7 (zLE m8 (zLE m9 (zLE (show fn125 [ρ 9, ρ 7] (γ 0) = (0, ρ 10, γ 1) from l0.symm) (zLV (γ 1) rfl ?_)))))))
  refine zLV (ρ 10) rfl (zLE c2.symm (zIN w_0 (zIN w_1 (zLE (show fn126 [ρ 9, ρ 7] (γ 2) = (0, ρ 11, γ 3) from l1.symm) (zLV (γ 3) rfl (zLV (ρ 11) rfl (zLE c4.symm ?_)))))))
  refine zIN w_2 (zLE (show fn109 [ρ 8] (γ 4) = (0, 0, γ 5) from l2.symm) (zLV (γ 5) rfl ?_))
  rfl
theorem yn133 {S : Nat → zSpc} (hS109 : zIm S 109 sn109) (hS125 : zIm S 125 sn125) (hS126 : zIm S 126 sn126) : ∀ x g o v gz, zSem uW uT w133_.2.2.2.1 w133_.2.2.1.1.length S q133 (fun i => q133a.getD i []) (zNA a133_) x g o v gz → sn133 x g o v gz := by
  intro a g o v gz h
  exact zSem_all (l0 := q133) (las := q133a) (S := S) (J := (fun _ _ _ => True)) (P := sn133 a g) (fun _ => (show zAll _ [q133_0, q133_1, q133_2, q133_3, q133_4] from (zAll_c (vn133_0 hS109 hS125 hS126) (zAll_c (vn133_1 hS109 hS125 hS126) (zAll_c (vn133_2 hS109 hS125 hS126) (zAll_c (vn133_3 hS109 hS125 hS126) (zAll_c (vn133_4 hS109 hS125 hS126) zAll_n))))))) (fun _ => (show zAllI _ 0 [] from trivial)) h
theorem vn134_0 {S : Nat → zSpc} (hS109 : zIm S 109 sn109) (hS125 : zIm S 125 sn125) (hS126 : zIm S 126 sn126) {a : List Int} {g : rHp} : ∀ (ρ : Nat → Int) (γ : Nat → rHp), zO 11 S a g q134_0 ρ γ → zGl (fun _ _ _ => True) (sn134 a g) q134_0 ρ γ := by
  intro ρ γ h
  obtain ⟨ha, hg, hr, hf, hm, hc, hl⟩ := h
  have ha : a = [ρ 0, ρ 1, ρ 2, ρ 3, ρ 4, ρ 5, ρ 6, ρ 7, ρ 8, ρ 9, ρ 10] := ha
  subst ha
  subst hg
  have r12 : (0 : Int) ≤ ρ 12 ∧ ρ 12 ≤ 20 := zRnA hr 12
  have w_0 : ρ 12 ≥ 0 := by omega
  have m0 : γ 0 1 0 10 = ρ 0 := zAllA hm 0
  have m1 : γ 0 40 0 (ρ 0) = ρ 1 := zAllA hm 1
  have m2 : γ 0 9 (ρ 1) 2 = ρ 2 := zAllA hm 2
  have m3 : γ 0 2 0 7 = ρ 3 := zAllA hm 3
  have m9 : γ 0 10 (ρ 2 + 9 * ρ 1 + 1) 5 = ρ 9 := zAllA hm 9
  have m10 : γ 0 10 (ρ 2 + 9 * ρ 1 + 1) 7 = ρ 10 := zAllA hm 10
  have m11 : γ 0 10 (ρ 2 + 9 * ρ 1 + 1) 6 = ρ 11 := zAllA hm 11
  have c2 : γ 2 = rUp (γ 1) 10 (ρ 2 + 9 * ρ 1 + 1) 8 (ρ 12) := And.right (zChA hc 0)
  have l0 : sn125 [ρ 11, ρ 9, ρ 7] (γ 0) 0 (ρ 12) (γ 1) := hS125 _ _ _ _ _ (zAllA hl 0)
  show sn134 [ρ 0, ρ 1, ρ 2, ρ 3, ρ 4, ρ 5, ρ 6, ρ 7, ρ 8, ρ 9, ρ 10] (γ 0) 0 1 (γ 2)
  refine Eq.symm ?_
  show fn134 [] (γ 0) = _
  unfold fn134
  refine zLE m0 (zLE m1 (zLE m2 (zLE m3 (zLE m9 (zLE m10 (zLE m11 (zLE (show fn125 [ρ 11, ρ 9] (γ 0) = (0, ρ 12, γ 1) from l0.symm) ?_)))))))
  refine zLV (γ 1) rfl (zLV (ρ 12) rfl (zLE c2.symm (zIP w_0 ?_)))
  rfl
theorem vn134_1 {S : Nat → zSpc} (hS109 : zIm S 109 sn109) (hS125 : zIm S 125 sn125) (hS126 : zIm S 126 sn126) {a : List Int} {g : rHp} : ∀ (ρ : Nat → Int) (γ : Nat → rHp), zO 11 S a g q134_1 ρ γ → zGl (fun _ _ _ => True) (sn134 a g) q134_1 ρ γ := by
  intro ρ γ h
  obtain ⟨ha, hg, hr, hf, hm, hc, hl⟩ := h
  have ha : a = [ρ 0, ρ 1, ρ 2, ρ 3, ρ 4, ρ 5, ρ 6, ρ 7, ρ 8, ρ 9, ρ 10] := ha
  subst ha
  subst hg
  have r3 : (1 : Int) ≤ ρ 3 ∧ ρ 3 ≤ 1 := zRnA hr 3
  have r12 : ((-1) : Int) ≤ ρ 12 ∧ ρ 12 ≤ (-1) := zRnA hr 12
  obtain ⟨w_0, w_1, w_2⟩ : (¬ (ρ 12 ≥ 0)) ∧ (ρ 3 ≠ 0) ∧ (ρ 3 = 1) := ⟨by omega, by omega, by omega⟩
  have m0 : γ 0 1 0 10 = ρ 0 := zAllA hm 0
  have m1 : γ 0 40 0 (ρ 0) = ρ 1 := zAllA hm 1
  have m2 : γ 0 9 (ρ 1) 2 = ρ 2 := zAllA hm 2
  have m3 : γ 0 2 0 7 = ρ 3 := zAllA hm 3
  have m9 : γ 0 10 (ρ 2 + 9 * ρ 1 + 1) 5 = ρ 9 := zAllA hm 9
  have m10 : γ 0 10 (ρ 2 + 9 * ρ 1 + 1) 7 = ρ 10 := zAllA hm 10
  have m11 : γ 0 10 (ρ 2 + 9 * ρ 1 + 1) 6 = ρ 11 := zAllA hm 11
  have c2 : γ 2 = rUp (γ 1) 10 (ρ 2 + 9 * ρ 1 + 1) 8 (ρ 12) := And.right (zChA hc 0)
  have l0 : sn125 [ρ 11, ρ 9, ρ 7] (γ 0) 0 (ρ 12) (γ 1) := hS125 _ _ _ _ _ (zAllA hl 0)
  show sn134 [ρ 0, ρ 1, ρ 2, ρ 3, ρ 4, ρ 5, ρ 6, ρ 7, ρ 8, ρ 9, ρ 10] (γ 0) 0 1 (γ 2)
  refine Eq.symm ?_
  show fn134 [] (γ 0) = _
  unfold fn134
  refine zLE m0 (zLE m1 (zLE m2 (zLE m3 (zLE m9 (zLE m10 (zLE m11 (zLE (show fn125 [ρ 11, ρ 9] (γ 0) = (0, ρ 12, γ 1) from l0.symm) ?_)))))))
  refine zLV (γ 1) rfl (zLV (ρ 12) rfl (zLE c2.symm (zIN w_0 (zIP w_1 (zIP w_2 ?_)))))
  rfl
theorem vn134_2 {S : Nat → zSpc} (hS109 : zIm S 109 sn109) (hS125 : zIm S 125 sn125) (hS126 : zIm S 126 sn126) {a : List Int} {g : rHp} : ∀ (ρ : Nat → Int) (γ : Nat → rHp), zO 11 S a g q134_2 ρ γ → zGl (fun _ _ _ => True) (sn134 a g) q134_2 ρ γ := by
  intro ρ γ h
  obtain ⟨ha, hg, hr, hf, hm, hc, hl⟩ := h
  have ha : a = [ρ 0, ρ 1, ρ 2, ρ 3, ρ 4, ρ 5, ρ 6, ρ 7, ρ 8, ρ 9, ρ 10] := ha
  subst ha
  subst hg
  have r3 : (2 : Int) ≤ ρ 3 ∧ ρ 3 ≤ 2 := zRnA hr 3
  have r12 : ((-1) : Int) ≤ ρ 12 ∧ ρ 12 ≤ (-1) := zRnA hr 12
  obtain ⟨w_0, w_1, w_2⟩ : (¬ (ρ 12 ≥ 0)) ∧ (ρ 3 ≠ 0) ∧ (¬ (ρ 3 = 1)) := ⟨by omega, by omega, by omega⟩
  have m0 : γ 0 1 0 10 = ρ 0 := zAllA hm 0
  have m1 : γ 0 40 0 (ρ 0) = ρ 1 := zAllA hm 1
  have m2 : γ 0 9 (ρ 1) 2 = ρ 2 := zAllA hm 2
  have m3 : γ 0 2 0 7 = ρ 3 := zAllA hm 3
  have m9 : γ 0 10 (ρ 2 + 9 * ρ 1 + 1) 5 = ρ 9 := zAllA hm 9
  have m10 : γ 0 10 (ρ 2 + 9 * ρ 1 + 1) 7 = ρ 10 := zAllA hm 10
  have m11 : γ 0 10 (ρ 2 + 9 * ρ 1 + 1) 6 = ρ 11 := zAllA hm 11
  have c2 : γ 2 = rUp (γ 1) 10 (ρ 2 + 9 * ρ 1 + 1) 8 (ρ 12) := And.right (zChA hc 1)
  have l0 : sn125 [ρ 11, ρ 9, ρ 7] (γ 0) 0 (ρ 12) (γ 1) := hS125 _ _ _ _ _ (zAllA hl 0)
  have l1 : sn109 [ρ 10, ρ 8] (γ 2) 0 0 (γ 3) := hS109 _ _ _ _ _ (zAllA hl 1)
  show sn134 [ρ 0, ρ 1, ρ 2, ρ 3, ρ 4, ρ 5, ρ 6, ρ 7, ρ 8, ρ 9, ρ 10] (γ 0) 0 0 (γ 3)
  refine Eq.symm ?_
  show fn134 [] (γ 0) = _
  unfold fn134
  refine zLE m0 (zLE m1 (zLE m2 (zLE m3 (zLE m9 (zLE m10 (zLE m11 (zLE (show fn125 [ρ 11, ρ 9] (γ 0) = (0, ρ 12, γ 1) from l0.symm) ?_)))))))
  refine zLV (γ 1) rfl (zLV (ρ 12) rfl (zLE c2.symm (zIN w_0 (zIP w_1 (zIN w_2 (zLE (show fn109 [ρ 10] (γ 2) = (0, 0, γ 3) from l1.symm) (zLV (γ 3) rfl ?_)))))))
  rfl
theorem vn134_3 {S : Nat → zSpc} (hS109 : zIm S 109 sn109) (hS125 : zIm S 125 sn125) (hS126 : zIm S 126 sn126) {a : List Int} {g : rHp} : ∀ (ρ : Nat → Int) (γ : Nat → rHp), zO 11 S a g q134_3 ρ γ → zGl (fun _ _ _ => True) (sn134 a g) q134_3 ρ γ := by
  intro ρ γ h
  obtain ⟨ha, hg, hr, hf, hm, hc, hl⟩ := h
  have ha : a = [ρ 0, ρ 1, ρ 2, ρ 3, ρ 4, ρ 5, ρ 6, ρ 7, ρ 8, ρ 9, ρ 10] := ha
  subst ha
  subst hg
  have r3 : (0 : Int) ≤ ρ 3 ∧ ρ 3 ≤ 0 := zRnA hr 3
  have r12 : ((-1) : Int) ≤ ρ 12 ∧ ρ 12 ≤ (-1) := zRnA hr 12
  have r13 : (0 : Int) ≤ ρ 13 ∧ ρ 13 ≤ 19 := zRnA hr 13
  obtain ⟨w_0, w_1, w_2⟩ : (¬ (ρ 12 ≥ 0)) ∧ (¬ (ρ 3 ≠ 0)) ∧ (ρ 13 ≥ 0) := ⟨by omega, by omega, by omega⟩
  have m0 : γ 0 1 0 10 = ρ 0 := zAllA hm 0
  have m1 : γ 0 40 0 (ρ 0) = ρ 1 := zAllA hm 1
  have m2 : γ 0 9 (ρ 1) 2 = ρ 2 := zAllA hm 2
  have m3 : γ 0 2 0 7 = ρ 3 := zAllA hm 3
  have m9 : γ 0 10 (ρ 2 + 9 * ρ 1 + 1) 5 = ρ 9 := zAllA hm 9
  have m10 : γ 0 10 (ρ 2 + 9 * ρ 1 + 1) 7 = ρ 10 := zAllA hm 10
  have m11 : γ 0 10 (ρ 2 + 9 * ρ 1 + 1) 6 = ρ 11 := zAllA hm 11
  have c2 : γ 2 = rUp (γ 1) 10 (ρ 2 + 9 * ρ 1 + 1) 8 (ρ 12) := And.right (zChA hc 2)
  have c4 : γ 4 = rUp (γ 3) 10 (ρ 2 + 9 * ρ 1 + 1) 8 (ρ 13) := And.right (zChA hc 0)
  have l0 : sn125 [ρ 11, ρ 9, ρ 7] (γ 0) 0 (ρ 12) (γ 1) := hS125 _ _ _ _ _ (zAllA hl 0)
  have l1 : sn126 [ρ 11, ρ 9, ρ 7] (γ 2) 0 (ρ 13) (γ 3) := hS126 _ _ _ _ _ (zAllA hl 1)
  show sn134 [ρ 0, ρ 1, ρ 2, ρ 3, ρ 4, ρ 5, ρ 6, ρ 7, ρ 8, ρ 9, ρ 10] (γ 0) 0 1 (γ 4)
  refine Eq.symm ?_
  show fn134 [] (γ 0) = _
  unfold fn134
  refine zLE m0 (zLE m1 (zLE m2 (zLE m3 (zLE m9 (zLE m10 (zLE m11 (zLE (show fn125 [ρ 11, ρ 9] (γ 0) = (0, ρ 12, γ 1) from l0.symm) ?_)))))))
  refine zLV (γ 1) rfl (zLV (ρ 12) rfl (zLE c2.symm (zIN w_0 (zIN w_1 (zLE (show fn126 [ρ 11, ρ 9] (γ 2) = (0, ρ 13, γ 3) from l1.symm) (zLV (γ 3) rfl (zLV (ρ 13) rfl ?_)))))))
  refine zLE c4.symm (zIP w_2 ?_)
  rfl
theorem vn134_4 {S : Nat → zSpc} (hS109 : zIm S 109 sn109) (hS125 : zIm S 125 sn125) (hS126 : zIm S 126 sn126) {a : List Int} {g : rHp} : ∀ (ρ : Nat → Int) (γ : Nat → rHp), zO 11 S a g q134_4 ρ γ → zGl (fun _ _ _ => True) (sn134 a g) q134_4 ρ γ := by
  intro ρ γ h
  obtain ⟨ha, hg, hr, hf, hm, hc, hl⟩ := h
  have ha : a = [ρ 0, ρ 1, ρ 2, ρ 3, ρ 4, ρ 5, ρ 6, ρ 7, ρ 8, ρ 9, ρ 10] := ha
  subst ha
  subst hg
  have r3 : (0 : Int) ≤ ρ 3 ∧ ρ 3 ≤ 0 := zRnA hr 3
  have r12 : ((-1) : Int) ≤ ρ 12 ∧ ρ 12 ≤ (-1) := zRnA hr 12
  have r13 : ((-1) : Int) ≤ ρ 13 ∧ ρ 13 ≤ (-1) := zRnA hr 13
  obtain ⟨w_0, w_1, w_2⟩ : (¬ (ρ 12 ≥ 0)) ∧ (¬ (ρ 3 ≠ 0)) ∧ (¬ (ρ 13 ≥ 0)) := ⟨by omega, by omega, by omega⟩
  have m0 : γ 0 1 0 10 = ρ 0 := zAllA hm 0
  have m1 : γ 0 40 0 (ρ 0) = ρ 1 := zAllA hm 1
  have m2 : γ 0 9 (ρ 1) 2 = ρ 2 := zAllA hm 2
  have m3 : γ 0 2 0 7 = ρ 3 := zAllA hm 3
  have m9 : γ 0 10 (ρ 2 + 9 * ρ 1 + 1) 5 = ρ 9 := zAllA hm 9
  have m10 : γ 0 10 (ρ 2 + 9 * ρ 1 + 1) 7 = ρ 10 := zAllA hm 10
  have m11 : γ 0 10 (ρ 2 + 9 * ρ 1 + 1) 6 = ρ 11 := zAllA hm 11
  have c2 : γ 2 = rUp (γ 1) 10 (ρ 2 + 9 * ρ 1 + 1) 8 (ρ 12) := And.right (zChA hc 3)
  have c4 : γ 4 = rUp (γ 3) 10 (ρ 2 + 9 * ρ 1 + 1) 8 (ρ 13) := And.right (zChA hc 1)
  have l0 : sn125 [ρ 11, ρ 9, ρ 7] (γ 0) 0 (ρ 12) (γ 1) := hS125 _ _ _ _ _ (zAllA hl 0)
  have l1 : sn126 [ρ 11, ρ 9, ρ 7] (γ 2) 0 (ρ 13) (γ 3) := hS126 _ _ _ _ _ (zAllA hl 1)
  have l2 : sn109 [ρ 10, ρ 8] (γ 4) 0 0 (γ 5) := hS109 _ _ _ _ _ (zAllA hl 2)
  show sn134 [ρ 0, ρ 1, ρ 2, ρ 3, ρ 4, ρ 5, ρ 6, ρ 7, ρ 8, ρ 9, ρ 10] (γ 0) 0 0 (γ 5)
  refine Eq.symm ?_
  show fn134 [] (γ 0) = _
  unfold fn134
  refine zLE m0 (zLE m1 (zLE m2 (zLE m3 (zLE m9 (zLE m10 (zLE m11 (zLE (show fn125 [ρ 11, ρ 9] (γ 0) = (0, ρ 12, γ 1) from l0.symm) ?_)))))))
  refine zLV (γ 1) rfl (zLV (ρ 12) rfl (zLE c2.symm (zIN w_0 (zIN w_1 (zLE (show fn126 [ρ 11, ρ 9] (γ 2) = (0, ρ 13, γ 3) from l1.symm) (zLV (γ 3) rfl (zLV (ρ 13) rfl ?_)))))))
  refine zLE c4.symm (zIN w_2 (zLE (show fn109 [ρ 10] (γ 4) = (0, 0, γ 5) from l2.symm) (zLV (γ 5) rfl ?_)))
  rfl
theorem yn134 {S : Nat → zSpc} (hS109 : zIm S 109 sn109) (hS125 : zIm S 125 sn125) (hS126 : zIm S 126 sn126) : ∀ x g o v gz, zSem uW uT w134_.2.2.2.1 w134_.2.2.1.1.length S q134 (fun i => q134a.getD i []) (zNA a134_) x g o v gz → sn134 x g o v gz := by
  intro a g o v gz h
  exact zSem_all (l0 := q134) (las := q134a) (S := S) (J := (fun _ _ _ => True)) (P := sn134 a g) (fun _ => (show zAll _ [q134_0, q134_1, q134_2, q134_3, q134_4] from (zAll_c (vn134_0 hS109 hS125 hS126) (zAll_c (vn134_1 hS109 hS125 hS126) (zAll_c (vn134_2 hS109 hS125 hS126) (zAll_c (vn134_3 hS109 hS125 hS126) (zAll_c (vn134_4 hS109 hS125 hS126) zAll_n))))))) (fun _ => (show zAllI _ 0 [] from trivial)) h
theorem vn135_0 {S : Nat → zSpc} (hS92 : zIm S 92 sn92) (hS104 : zIm S 104 sn104) (hS109 : zIm S 109 sn109) {a : List Int} {g : rHp} : ∀ (ρ : Nat → Int) (γ : Nat → rHp), zO 8 S a g q135_0 ρ γ → zGl (fun _ _ _ => True) (sn135 a g) q135_0 ρ γ := by
  intro ρ γ h
  obtain ⟨ha, hg, hr, hf, hm, hc, hl⟩ := h
  have ha : a = [ρ 0, ρ 1, ρ 2, ρ 3, ρ 4, ρ 5, ρ 6, ρ 7] := ha
  subst ha
  subst hg
  have r8 : (0 : Int) ≤ ρ 8 ∧ ρ 8 ≤ 5119 := zRnA hr 8
  have w_0 : ρ 8 ≥ 0 := by omega
  have l0 : sn92 [ρ 1, ρ 7] (γ 0) 0 (ρ 8) (γ 1) := hS92 _ _ _ _ _ (zAllA hl 0)
  have l1 : sn104 [ρ 0, 0, ρ 2, 0, ρ 8 + 1099511627776, ρ 5] (γ 1) 0 0 (γ 2) := hS104 _ _ _ _ _ (zAllA hl 1)
  show sn135 [ρ 0, ρ 1, ρ 2, ρ 3, ρ 4, ρ 5, ρ 6, ρ 7] (γ 0) 0 1 (γ 2)
  refine Eq.symm ?_
  show fn135 [ρ 0, ρ 1, ρ 2] (γ 0) = _
  unfold fn135
  refine zLV (ρ 0) rfl (zLV (ρ 1) rfl (zLV (ρ 2) rfl (zLE (show fn92 [ρ 1] (γ 0) = (0, ρ 8, γ 1) from l0.symm) (zLV (γ 1) rfl (zLV (ρ 8) rfl (zLE (show fn104 [ρ 0, 0, ρ 2, 0, ρ 8 + 1099511627776] (γ 1) = (0, 0, γ 2) from l1.symm) (zLV (γ 2) rfl ?_)))))))
  refine zIP w_0 ?_
  rfl
theorem vn135_1 {S : Nat → zSpc} (hS92 : zIm S 92 sn92) (hS104 : zIm S 104 sn104) (hS109 : zIm S 109 sn109) {a : List Int} {g : rHp} : ∀ (ρ : Nat → Int) (γ : Nat → rHp), zO 8 S a g q135_1 ρ γ → zGl (fun _ _ _ => True) (sn135 a g) q135_1 ρ γ := by
  intro ρ γ h
  obtain ⟨ha, hg, hr, hf, hm, hc, hl⟩ := h
  have ha : a = [ρ 0, ρ 1, ρ 2, ρ 3, ρ 4, ρ 5, ρ 6, ρ 7] := ha
  subst ha
  subst hg
  have r8 : ((-1) : Int) ≤ ρ 8 ∧ ρ 8 ≤ (-1) := zRnA hr 8
  have w_0 : ¬ (ρ 8 ≥ 0) := by omega
  have l0 : sn92 [ρ 1, ρ 7] (γ 0) 0 (ρ 8) (γ 1) := hS92 _ _ _ _ _ (zAllA hl 0)
  have l1 : sn104 [ρ 0, 0, ρ 2, 0, ρ 8 + 1099511627776, ρ 5] (γ 1) 0 0 (γ 2) := hS104 _ _ _ _ _ (zAllA hl 1)
  have l2 : sn109 [ρ 2, ρ 6] (γ 2) 0 0 (γ 3) := hS109 _ _ _ _ _ (zAllA hl 2)
  show sn135 [ρ 0, ρ 1, ρ 2, ρ 3, ρ 4, ρ 5, ρ 6, ρ 7] (γ 0) 0 0 (γ 3)
  refine Eq.symm ?_
  show fn135 [ρ 0, ρ 1, ρ 2] (γ 0) = _
  unfold fn135
  refine zLV (ρ 0) rfl (zLV (ρ 1) rfl (zLV (ρ 2) rfl (zLE (show fn92 [ρ 1] (γ 0) = (0, ρ 8, γ 1) from l0.symm) (zLV (γ 1) rfl (zLV (ρ 8) rfl (zLE (show fn104 [ρ 0, 0, ρ 2, 0, ρ 8 + 1099511627776] (γ 1) = (0, 0, γ 2) from l1.symm) (zLV (γ 2) rfl ?_)))))))
  refine zIN w_0 (zLE (show fn109 [ρ 2] (γ 2) = (0, 0, γ 3) from l2.symm) (zLV (γ 3) rfl ?_))
  rfl
theorem yn135 {S : Nat → zSpc} (hS92 : zIm S 92 sn92) (hS104 : zIm S 104 sn104) (hS109 : zIm S 109 sn109) : ∀ x g o v gz, zSem uW uT w135_.2.2.2.1 w135_.2.2.1.1.length S q135 (fun i => q135a.getD i []) (zNA a135_) x g o v gz → sn135 x g o v gz := by
  intro a g o v gz h
  exact zSem_all (l0 := q135) (las := q135a) (S := S) (J := (fun _ _ _ => True)) (P := sn135 a g) (fun _ => (show zAll _ [q135_0, q135_1] from (zAll_c (vn135_0 hS92 hS104 hS109) (zAll_c (vn135_1 hS92 hS104 hS109) zAll_n)))) (fun _ => (show zAllI _ 0 [] from trivial)) h
theorem vn136_0 {S : Nat → zSpc} (hS104 : zIm S 104 sn104) (hS105 : zIm S 105 sn105) (hS107 : zIm S 107 sn107) (hS109 : zIm S 109 sn109) (hS114 : zIm S 114 sn114) (hS115 : zIm S 115 sn115) (hS116 : zIm S 116 sn116) (hS135 : zIm S 135 sn135) {a : List Int} {g : rHp} : ∀ (ρ : Nat → Int) (γ : Nat → rHp), zO 7 S a g q136_0 ρ γ → zGl (fun _ _ _ => True) (sn136 a g) q136_0 ρ γ := by
  intro ρ γ h
  obtain ⟨ha, hg, hr, hf, hm, hc, hl⟩ := h
  have ha : a = [ρ 0, ρ 1, ρ 2, ρ 3, ρ 4, ρ 5, ρ 6] := ha
  subst ha
  subst hg
  have m6 : γ 1 2 0 6 = ρ 7 := zAllA hm 6
  have l0 : sn114 [ρ 1, ρ 2] (γ 0) 0 (-1) (γ 1) := hS114 _ _ _ _ _ (zAllA hl 0)
  have l1 : sn105 [(-1)] (γ 1) 0 0 (γ 2) := hS105 _ _ _ _ _ (zAllA hl 1)
  have l2 : sn107 [(-1)] (γ 2) 0 0 (γ 3) := hS107 _ _ _ _ _ (zAllA hl 2)
  have l3 : sn109 [ρ 7, ρ 4] (γ 3) 0 0 (γ 4) := hS109 _ _ _ _ _ (zAllA hl 3)
  show sn136 [ρ 0, ρ 1, ρ 2, ρ 3, ρ 4, ρ 5, ρ 6] (γ 0) 0 0 (γ 4)
  refine Eq.symm ?_
  show fn136 [ρ 0] (γ 0) = _
  unfold fn136
  refine zLV (ρ 0) rfl (zLE (show fn114 [] (γ 0) = (0, (-1), γ 1) from l0.symm) (zLV (γ 1) rfl (zIN zQ2_ (zLE m6 (zLE (show fn105 [(-1)] (γ 1) = (0, 0, γ 2) from l1.symm) (zLV (γ 2) rfl (zLE (show fn107 [(-1)] (γ 2) = (0, 0, γ 3) from l2.symm) ?_)))))))
  refine zLV (γ 3) rfl (zLE (show fn109 [ρ 7] (γ 3) = (0, 0, γ 4) from l3.symm) (zLV (γ 4) rfl ?_))
  rfl
theorem vn136_1 {S : Nat → zSpc} (hS104 : zIm S 104 sn104) (hS105 : zIm S 105 sn105) (hS107 : zIm S 107 sn107) (hS109 : zIm S 109 sn109) (hS114 : zIm S 114 sn114) (hS115 : zIm S 115 sn115) (hS116 : zIm S 116 sn116) (hS135 : zIm S 135 sn135) {a : List Int} {g : rHp} : ∀ (ρ : Nat → Int) (γ : Nat → rHp), zO 7 S a g q136_1 ρ γ → zGl (fun _ _ _ => True) (sn136 a g) q136_1 ρ γ := by
  intro ρ γ h
  obtain ⟨ha, hg, hr, hf, hm, hc, hl⟩ := h
  have ha : a = [ρ 0, ρ 1, ρ 2, ρ 3, ρ 4, ρ 5, ρ 6] := ha
  subst ha
  subst hg
  have r7 : (45 : Int) ≤ ρ 7 ∧ ρ 7 ≤ 45 := zRnA hr 7
  obtain ⟨w_0, w_1⟩ : ((0 : Int) ≤ ρ 7) ∧ (ρ 7 = 45) := ⟨by omega, by omega⟩
  have m6 : γ 1 2 0 6 = ρ 8 := zAllA hm 6
  have l0 : sn114 [ρ 1, ρ 2] (γ 0) 0 (ρ 7) (γ 1) := hS114 _ _ _ _ _ (zAllA hl 0)
  have l1 : sn105 [ρ 7] (γ 1) 0 0 (γ 2) := hS105 _ _ _ _ _ (zAllA hl 1)
  have l2 : sn107 [ρ 7] (γ 2) 0 0 (γ 3) := hS107 _ _ _ _ _ (zAllA hl 2)
  have l3 : sn116 [ρ 8, ρ 2, ρ 4] (γ 3) 0 0 (γ 4) := hS116 _ _ _ _ _ (zAllA hl 3)
  show sn136 [ρ 0, ρ 1, ρ 2, ρ 3, ρ 4, ρ 5, ρ 6] (γ 0) 0 0 (γ 4)
  refine Eq.symm ?_
  show fn136 [ρ 0] (γ 0) = _
  unfold fn136
  refine zLV (ρ 0) rfl (zLE (show fn114 [] (γ 0) = (0, ρ 7, γ 1) from l0.symm) (zLV (γ 1) rfl (zIP w_0 (zLV (ρ 7) rfl (zLE m6 (zLE (show fn105 [ρ 7] (γ 1) = (0, 0, γ 2) from l1.symm) (zLV (γ 2) rfl ?_)))))))
  refine zIN zQ0_ (zLE (show fn107 [ρ 7] (γ 2) = (0, 0, γ 3) from l2.symm) (zLV (γ 3) rfl (zIN zQ0_ (zIP w_1 (zLE (show fn116 [] (γ 3) = (0, 0, γ 4) from l3.symm) (zLV (γ 4) rfl (zIN zQ0_ ?_)))))))
  rfl
theorem vn136_2 {S : Nat → zSpc} (hS104 : zIm S 104 sn104) (hS105 : zIm S 105 sn105) (hS107 : zIm S 107 sn107) (hS109 : zIm S 109 sn109) (hS114 : zIm S 114 sn114) (hS115 : zIm S 115 sn115) (hS116 : zIm S 116 sn116) (hS135 : zIm S 135 sn135) {a : List Int} {g : rHp} : ∀ (ρ : Nat → Int) (γ : Nat → rHp), zO 7 S a g q136_2 ρ γ → zGl (fun _ _ _ => True) (sn136 a g) q136_2 ρ γ := by
  intro ρ γ h
  obtain ⟨ha, hg, hr, hf, hm, hc, hl⟩ := h
  have ha : a = [ρ 0, ρ 1, ρ 2, ρ 3, ρ 4, ρ 5, ρ 6] := ha
  subst ha
  subst hg
  have r7 : (45 : Int) ≤ ρ 7 ∧ ρ 7 ≤ 45 := zRnA hr 7
  obtain ⟨w_0, w_1⟩ : ((0 : Int) ≤ ρ 7) ∧ (ρ 7 = 45) := ⟨by omega, by omega⟩
  have m6 : γ 1 2 0 6 = ρ 8 := zAllA hm 6
  have m9 : γ 4 2 0 10 = ρ 10 := zAllA hm 9
  have l0 : sn114 [ρ 1, ρ 2] (γ 0) 0 (ρ 7) (γ 1) := hS114 _ _ _ _ _ (zAllA hl 0)
  have l1 : sn105 [ρ 7] (γ 1) 0 0 (γ 2) := hS105 _ _ _ _ _ (zAllA hl 1)
  have l2 : sn107 [ρ 7] (γ 2) 0 0 (γ 3) := hS107 _ _ _ _ _ (zAllA hl 2)
  have l3 : sn116 [ρ 8, ρ 2, ρ 4] (γ 3) 0 1 (γ 4) := hS116 _ _ _ _ _ (zAllA hl 3)
  have l4 : sn104 [ρ 0, 0, ρ 8, 0, ρ 10, ρ 3] (γ 4) 0 0 (γ 5) := hS104 _ _ _ _ _ (zAllA hl 4)
  show sn136 [ρ 0, ρ 1, ρ 2, ρ 3, ρ 4, ρ 5, ρ 6] (γ 0) 0 1 (γ 5)
  refine Eq.symm ?_
  show fn136 [ρ 0] (γ 0) = _
  unfold fn136
  refine zLV (ρ 0) rfl (zLE (show fn114 [] (γ 0) = (0, ρ 7, γ 1) from l0.symm) (zLV (γ 1) rfl (zIP w_0 (zLV (ρ 7) rfl (zLE m6 (zLE (show fn105 [ρ 7] (γ 1) = (0, 0, γ 2) from l1.symm) (zLV (γ 2) rfl ?_)))))))
  refine zIN zQ0_ (zLE (show fn107 [ρ 7] (γ 2) = (0, 0, γ 3) from l2.symm) (zLV (γ 3) rfl (zIN zQ0_ (zIP w_1 (zLE (show fn116 [] (γ 3) = (0, 1, γ 4) from l3.symm) (zLV (γ 4) rfl (zIP zQ1_ ?_)))))))
  refine zLE m9 (zLE (show fn104 [ρ 0, 0, ρ 8, 0, ρ 10] (γ 4) = (0, 0, γ 5) from l4.symm) (zLV (γ 5) rfl ?_))
  rfl
theorem vn136_3 {S : Nat → zSpc} (hS104 : zIm S 104 sn104) (hS105 : zIm S 105 sn105) (hS107 : zIm S 107 sn107) (hS109 : zIm S 109 sn109) (hS114 : zIm S 114 sn114) (hS115 : zIm S 115 sn115) (hS116 : zIm S 116 sn116) (hS135 : zIm S 135 sn135) {a : List Int} {g : rHp} : ∀ (ρ : Nat → Int) (γ : Nat → rHp), zO 7 S a g q136_3 ρ γ → zGl (fun _ _ _ => True) (sn136 a g) q136_3 ρ γ := by
  intro ρ γ h
  obtain ⟨ha, hg, hr, hf, hm, hc, hl⟩ := h
  have ha : a = [ρ 0, ρ 1, ρ 2, ρ 3, ρ 4, ρ 5, ρ 6] := ha
  subst ha
  subst hg
  have r7 : (0 : Int) ≤ ρ 7 ∧ ρ 7 ≤ 255 := zRnA hr 7
  have w_0 : (0 : Int) ≤ ρ 7 := by omega
  have m6 : γ 1 2 0 6 = ρ 8 := zAllA hm 6
  have l0 : sn114 [ρ 1, ρ 2] (γ 0) 0 (ρ 7) (γ 1) := hS114 _ _ _ _ _ (zAllA hl 0)
  have l1 : sn105 [ρ 7] (γ 1) 0 0 (γ 2) := hS105 _ _ _ _ _ (zAllA hl 1)
  have l2 : sn107 [ρ 7] (γ 2) 0 0 (γ 3) := hS107 _ _ _ _ _ (zAllA hl 2)
  have l3 : ρ 7 ≠ 45 := zAllA hl 3
  have l4 : sn109 [ρ 8, ρ 4] (γ 3) 0 0 (γ 4) := hS109 _ _ _ _ _ (zAllA hl 4)
  have wl_0 : ¬ (ρ 7 = 45) := by omega
  show sn136 [ρ 0, ρ 1, ρ 2, ρ 3, ρ 4, ρ 5, ρ 6] (γ 0) 0 0 (γ 4)
  refine Eq.symm ?_
  show fn136 [ρ 0] (γ 0) = _
  unfold fn136
  refine zLV (ρ 0) rfl (zLE (show fn114 [] (γ 0) = (0, ρ 7, γ 1) from l0.symm) (zLV (γ 1) rfl (zIP w_0 (zLV (ρ 7) rfl (zLE m6 (zLE (show fn105 [ρ 7] (γ 1) = (0, 0, γ 2) from l1.symm) (zLV (γ 2) rfl ?_)))))))
  refine zIN zQ0_ (zLE (show fn107 [ρ 7] (γ 2) = (0, 0, γ 3) from l2.symm) (zLV (γ 3) rfl (zIN zQ0_ (zIN wl_0 (zLE (show fn109 [ρ 8] (γ 3) = (0, 0, γ 4) from l4.symm) (zLV (γ 4) rfl ?_))))))
  rfl
theorem vn136_4 {S : Nat → zSpc} (hS104 : zIm S 104 sn104) (hS105 : zIm S 105 sn105) (hS107 : zIm S 107 sn107) (hS109 : zIm S 109 sn109) (hS114 : zIm S 114 sn114) (hS115 : zIm S 115 sn115) (hS116 : zIm S 116 sn116) (hS135 : zIm S 135 sn135) {a : List Int} {g : rHp} : ∀ (ρ : Nat → Int) (γ : Nat → rHp), zO 7 S a g q136_4 ρ γ → zGl (fun _ _ _ => True) (sn136 a g) q136_4 ρ γ := by
  intro ρ γ h
  obtain ⟨ha, hg, hr, hf, hm, hc, hl⟩ := h
  have ha : a = [ρ 0, ρ 1, ρ 2, ρ 3, ρ 4, ρ 5, ρ 6] := ha
  subst ha
  subst hg
  have r7 : (48 : Int) ≤ ρ 7 ∧ ρ 7 ≤ 57 := zRnA hr 7
  have w_0 : (0 : Int) ≤ ρ 7 := by omega
  have m6 : γ 1 2 0 6 = ρ 8 := zAllA hm 6
  have l0 : sn114 [ρ 1, ρ 2] (γ 0) 0 (ρ 7) (γ 1) := hS114 _ _ _ _ _ (zAllA hl 0)
  have l1 : sn105 [ρ 7] (γ 1) 0 0 (γ 2) := hS105 _ _ _ _ _ (zAllA hl 1)
  have l2 : sn107 [ρ 7] (γ 2) 0 1 (γ 3) := hS107 _ _ _ _ _ (zAllA hl 2)
  have l3 : sn116 [ρ 8, ρ 2, ρ 4] (γ 3) 0 0 (γ 4) := hS116 _ _ _ _ _ (zAllA hl 3)
  show sn136 [ρ 0, ρ 1, ρ 2, ρ 3, ρ 4, ρ 5, ρ 6] (γ 0) 0 0 (γ 4)
  refine Eq.symm ?_
  show fn136 [ρ 0] (γ 0) = _
  unfold fn136
  refine zLV (ρ 0) rfl (zLE (show fn114 [] (γ 0) = (0, ρ 7, γ 1) from l0.symm) (zLV (γ 1) rfl (zIP w_0 (zLV (ρ 7) rfl (zLE m6 (zLE (show fn105 [ρ 7] (γ 1) = (0, 0, γ 2) from l1.symm) (zLV (γ 2) rfl ?_)))))))
  refine zIN zQ0_ (zLE (show fn107 [ρ 7] (γ 2) = (0, 1, γ 3) from l2.symm) (zLV (γ 3) rfl (zIP zQ1_ (zLE (show fn116 [] (γ 3) = (0, 0, γ 4) from l3.symm) (zLV (γ 4) rfl (zIN zQ0_ ?_))))))
  rfl
theorem vn136_5 {S : Nat → zSpc} (hS104 : zIm S 104 sn104) (hS105 : zIm S 105 sn105) (hS107 : zIm S 107 sn107) (hS109 : zIm S 109 sn109) (hS114 : zIm S 114 sn114) (hS115 : zIm S 115 sn115) (hS116 : zIm S 116 sn116) (hS135 : zIm S 135 sn135) {a : List Int} {g : rHp} : ∀ (ρ : Nat → Int) (γ : Nat → rHp), zO 7 S a g q136_5 ρ γ → zGl (fun _ _ _ => True) (sn136 a g) q136_5 ρ γ := by
  intro ρ γ h
  obtain ⟨ha, hg, hr, hf, hm, hc, hl⟩ := h
  have ha : a = [ρ 0, ρ 1, ρ 2, ρ 3, ρ 4, ρ 5, ρ 6] := ha
  subst ha
  subst hg
  have r7 : (48 : Int) ≤ ρ 7 ∧ ρ 7 ≤ 57 := zRnA hr 7
  have w_0 : (0 : Int) ≤ ρ 7 := by omega
  have m6 : γ 1 2 0 6 = ρ 8 := zAllA hm 6
  have m9 : γ 4 2 0 10 = ρ 10 := zAllA hm 9
  have l0 : sn114 [ρ 1, ρ 2] (γ 0) 0 (ρ 7) (γ 1) := hS114 _ _ _ _ _ (zAllA hl 0)
  have l1 : sn105 [ρ 7] (γ 1) 0 0 (γ 2) := hS105 _ _ _ _ _ (zAllA hl 1)
  have l2 : sn107 [ρ 7] (γ 2) 0 1 (γ 3) := hS107 _ _ _ _ _ (zAllA hl 2)
  have l3 : sn116 [ρ 8, ρ 2, ρ 4] (γ 3) 0 1 (γ 4) := hS116 _ _ _ _ _ (zAllA hl 3)
  have l4 : sn104 [ρ 0, 0, ρ 8, 0, ρ 10, ρ 3] (γ 4) 0 0 (γ 5) := hS104 _ _ _ _ _ (zAllA hl 4)
  show sn136 [ρ 0, ρ 1, ρ 2, ρ 3, ρ 4, ρ 5, ρ 6] (γ 0) 0 1 (γ 5)
  refine Eq.symm ?_
  show fn136 [ρ 0] (γ 0) = _
  unfold fn136
  refine zLV (ρ 0) rfl (zLE (show fn114 [] (γ 0) = (0, ρ 7, γ 1) from l0.symm) (zLV (γ 1) rfl (zIP w_0 (zLV (ρ 7) rfl (zLE m6 (zLE (show fn105 [ρ 7] (γ 1) = (0, 0, γ 2) from l1.symm) (zLV (γ 2) rfl ?_)))))))
  refine zIN zQ0_ (zLE (show fn107 [ρ 7] (γ 2) = (0, 1, γ 3) from l2.symm) (zLV (γ 3) rfl (zIP zQ1_ (zLE (show fn116 [] (γ 3) = (0, 1, γ 4) from l3.symm) (zLV (γ 4) rfl (zIP zQ1_ (zLE m9 ?_)))))))
  refine zLE (show fn104 [ρ 0, 0, ρ 8, 0, ρ 10] (γ 4) = (0, 0, γ 5) from l4.symm) (zLV (γ 5) rfl ?_)
  rfl
theorem vn136_6 {S : Nat → zSpc} (hS104 : zIm S 104 sn104) (hS105 : zIm S 105 sn105) (hS107 : zIm S 107 sn107) (hS109 : zIm S 109 sn109) (hS114 : zIm S 114 sn114) (hS115 : zIm S 115 sn115) (hS116 : zIm S 116 sn116) (hS135 : zIm S 135 sn135) {a : List Int} {g : rHp} : ∀ (ρ : Nat → Int) (γ : Nat → rHp), zO 7 S a g q136_6 ρ γ → zGl (fun _ _ _ => True) (sn136 a g) q136_6 ρ γ := by
  intro ρ γ h
  obtain ⟨ha, hg, hr, hf, hm, hc, hl⟩ := h
  have ha : a = [ρ 0, ρ 1, ρ 2, ρ 3, ρ 4, ρ 5, ρ 6] := ha
  subst ha
  subst hg
  have r7 : (97 : Int) ≤ ρ 7 ∧ ρ 7 ≤ 122 := zRnA hr 7
  have w_0 : (0 : Int) ≤ ρ 7 := by omega
  have m6 : γ 1 2 0 6 = ρ 8 := zAllA hm 6
  have l0 : sn114 [ρ 1, ρ 2] (γ 0) 0 (ρ 7) (γ 1) := hS114 _ _ _ _ _ (zAllA hl 0)
  have l1 : sn105 [ρ 7] (γ 1) 0 1 (γ 2) := hS105 _ _ _ _ _ (zAllA hl 1)
  have l2 : sn115 [ρ 8, ρ 2, ρ 4, ρ 5] (γ 2) 0 0 (γ 3) := hS115 _ _ _ _ _ (zAllA hl 2)
  show sn136 [ρ 0, ρ 1, ρ 2, ρ 3, ρ 4, ρ 5, ρ 6] (γ 0) 0 0 (γ 3)
  refine Eq.symm ?_
  show fn136 [ρ 0] (γ 0) = _
  unfold fn136
  refine zLV (ρ 0) rfl (zLE (show fn114 [] (γ 0) = (0, ρ 7, γ 1) from l0.symm) (zLV (γ 1) rfl (zIP w_0 (zLV (ρ 7) rfl (zLE m6 (zLE (show fn105 [ρ 7] (γ 1) = (0, 1, γ 2) from l1.symm) (zLV (γ 2) rfl ?_)))))))
  refine zIP zQ1_ (zLE (show fn115 [] (γ 2) = (0, 0, γ 3) from l2.symm) (zLV (γ 3) rfl (zIN zQ0_ ?_)))
  rfl
theorem vn136_7 {S : Nat → zSpc} (hS104 : zIm S 104 sn104) (hS105 : zIm S 105 sn105) (hS107 : zIm S 107 sn107) (hS109 : zIm S 109 sn109) (hS114 : zIm S 114 sn114) (hS115 : zIm S 115 sn115) (hS116 : zIm S 116 sn116) (hS135 : zIm S 135 sn135) {a : List Int} {g : rHp} : ∀ (ρ : Nat → Int) (γ : Nat → rHp), zO 7 S a g q136_7 ρ γ → zGl (fun _ _ _ => True) (sn136 a g) q136_7 ρ γ := by
  intro ρ γ h
  obtain ⟨ha, hg, hr, hf, hm, hc, hl⟩ := h
  have ha : a = [ρ 0, ρ 1, ρ 2, ρ 3, ρ 4, ρ 5, ρ 6] := ha
  subst ha
  subst hg
  have r7 : (97 : Int) ≤ ρ 7 ∧ ρ 7 ≤ 122 := zRnA hr 7
  have w_0 : (0 : Int) ≤ ρ 7 := by omega
  have m6 : γ 1 2 0 6 = ρ 8 := zAllA hm 6
  have m10 : γ 3 2 0 8 = ρ 10 := zAllA hm 10
  have l0 : sn114 [ρ 1, ρ 2] (γ 0) 0 (ρ 7) (γ 1) := hS114 _ _ _ _ _ (zAllA hl 0)
  have l1 : sn105 [ρ 7] (γ 1) 0 1 (γ 2) := hS105 _ _ _ _ _ (zAllA hl 1)
  have l2 : sn115 [ρ 8, ρ 2, ρ 4, ρ 5] (γ 2) 0 1 (γ 3) := hS115 _ _ _ _ _ (zAllA hl 2)
  have l3 : sn135 [ρ 0, ρ 10, ρ 8, ρ 9, ρ 2, ρ 3, ρ 4, ρ 6] (γ 3) 0 0 (γ 4) := hS135 _ _ _ _ _ (zAllA hl 3)
  show sn136 [ρ 0, ρ 1, ρ 2, ρ 3, ρ 4, ρ 5, ρ 6] (γ 0) 0 0 (γ 4)
  refine Eq.symm ?_
  show fn136 [ρ 0] (γ 0) = _
  unfold fn136
  refine zLV (ρ 0) rfl (zLE (show fn114 [] (γ 0) = (0, ρ 7, γ 1) from l0.symm) (zLV (γ 1) rfl (zIP w_0 (zLV (ρ 7) rfl (zLE m6 (zLE (show fn105 [ρ 7] (γ 1) = (0, 1, γ 2) from l1.symm) (zLV (γ 2) rfl ?_)))))))
  refine zIP zQ1_ (zLE (show fn115 [] (γ 2) = (0, 1, γ 3) from l2.symm) (zLV (γ 3) rfl (zIP zQ1_ (zLE m10 (zLE (show fn135 [ρ 0, ρ 10, ρ 8] (γ 3) = (0, 0, γ 4) from l3.symm) (zLV (γ 4) rfl (zIN zQ0_ ?_)))))))
  rfl
theorem vn136_8 {S : Nat → zSpc} (hS104 : zIm S 104 sn104) (hS105 : zIm S 105 sn105) (hS107 : zIm S 107 sn107) (hS109 : zIm S 109 sn109) (hS114 : zIm S 114 sn114) (hS115 : zIm S 115 sn115) (hS116 : zIm S 116 sn116) (hS135 : zIm S 135 sn135) {a : List Int} {g : rHp} : ∀ (ρ : Nat → Int) (γ : Nat → rHp), zO 7 S a g q136_8 ρ γ → zGl (fun _ _ _ => True) (sn136 a g) q136_8 ρ γ := by
  intro ρ γ h
  obtain ⟨ha, hg, hr, hf, hm, hc, hl⟩ := h
  have ha : a = [ρ 0, ρ 1, ρ 2, ρ 3, ρ 4, ρ 5, ρ 6] := ha
  subst ha
  subst hg
  have r7 : (97 : Int) ≤ ρ 7 ∧ ρ 7 ≤ 122 := zRnA hr 7
  have w_0 : (0 : Int) ≤ ρ 7 := by omega
  have m6 : γ 1 2 0 6 = ρ 8 := zAllA hm 6
  have m10 : γ 3 2 0 8 = ρ 10 := zAllA hm 10
  have l0 : sn114 [ρ 1, ρ 2] (γ 0) 0 (ρ 7) (γ 1) := hS114 _ _ _ _ _ (zAllA hl 0)
  have l1 : sn105 [ρ 7] (γ 1) 0 1 (γ 2) := hS105 _ _ _ _ _ (zAllA hl 1)
  have l2 : sn115 [ρ 8, ρ 2, ρ 4, ρ 5] (γ 2) 0 1 (γ 3) := hS115 _ _ _ _ _ (zAllA hl 2)
  have l3 : sn135 [ρ 0, ρ 10, ρ 8, ρ 9, ρ 2, ρ 3, ρ 4, ρ 6] (γ 3) 0 1 (γ 4) := hS135 _ _ _ _ _ (zAllA hl 3)
  show sn136 [ρ 0, ρ 1, ρ 2, ρ 3, ρ 4, ρ 5, ρ 6] (γ 0) 0 1 (γ 4)
  refine Eq.symm ?_
  show fn136 [ρ 0] (γ 0) = _
  unfold fn136
  refine zLV (ρ 0) rfl (zLE (show fn114 [] (γ 0) = (0, ρ 7, γ 1) from l0.symm) (zLV (γ 1) rfl (zIP w_0 (zLV (ρ 7) rfl (zLE m6 (zLE (show fn105 [ρ 7] (γ 1) = (0, 1, γ 2) from l1.symm) (zLV (γ 2) rfl ?_)))))))
  refine zIP zQ1_ (zLE (show fn115 [] (γ 2) = (0, 1, γ 3) from l2.symm) (zLV (γ 3) rfl (zIP zQ1_ (zLE m10 (zLE (show fn135 [ρ 0, ρ 10, ρ 8] (γ 3) = (0, 1, γ 4) from l3.symm) (zLV (γ 4) rfl (zIP zQ1_ ?_)))))))
  rfl
theorem yn136 {S : Nat → zSpc} (hS104 : zIm S 104 sn104) (hS105 : zIm S 105 sn105) (hS107 : zIm S 107 sn107) (hS109 : zIm S 109 sn109) (hS114 : zIm S 114 sn114) (hS115 : zIm S 115 sn115) (hS116 : zIm S 116 sn116) (hS135 : zIm S 135 sn135) : ∀ x g o v gz, zSem uW uT w136_.2.2.2.1 w136_.2.2.1.1.length S q136 (fun i => q136a.getD i []) (zNA a136_) x g o v gz → sn136 x g o v gz := by
  intro a g o v gz h
  exact zSem_all (l0 := q136) (las := q136a) (S := S) (J := (fun _ _ _ => True)) (P := sn136 a g) (fun _ => (show zAll _ [q136_0, q136_1, q136_2, q136_3, q136_4, q136_5, q136_6, q136_7, q136_8] from (zAll_c (vn136_0 hS104 hS105 hS107 hS109 hS114 hS115 hS116 hS135) (zAll_c (vn136_1 hS104 hS105 hS107 hS109 hS114 hS115 hS116 hS135) (zAll_c (vn136_2 hS104 hS105 hS107 hS109 hS114 hS115 hS116 hS135) (zAll_c (vn136_3 hS104 hS105 hS107 hS109 hS114 hS115 hS116 hS135) (zAll_c (vn136_4 hS104 hS105 hS107 hS109 hS114 hS115 hS116 hS135) (zAll_c (vn136_5 hS104 hS105 hS107 hS109 hS114 hS115 hS116 hS135) (zAll_c (vn136_6 hS104 hS105 hS107 hS109 hS114 hS115 hS116 hS135) (zAll_c (vn136_7 hS104 hS105 hS107 hS109 hS114 hS115 hS116 hS135) (zAll_c (vn136_8 hS104 hS105 hS107 hS109 hS114 hS115 hS116 hS135) zAll_n))))))))))) (fun _ => (show zAllI _ 0 [] from trivial)) h
theorem vn137_0 {S : Nat → zSpc} (hS104 : zIm S 104 sn104) (hS109 : zIm S 109 sn109) (hS117 : zIm S 117 sn117) (hS120 : zIm S 120 sn120) (hS121 : zIm S 121 sn121) {a : List Int} {g : rHp} : ∀ (ρ : Nat → Int) (γ : Nat → rHp), zO 10 S a g q137_0 ρ γ → zGl (fun _ _ _ => True) (sn137 a g) q137_0 ρ γ := by
  intro ρ γ h
  obtain ⟨ha, hg, hr, hf, hm, hc, hl⟩ := h
  have ha : a = [ρ 0, ρ 1, ρ 2, ρ 3, ρ 4, ρ 5, ρ 6, ρ 7, ρ 8, ρ 9] := ha
  subst ha
  subst hg
  have r9 : (0 : Int) ≤ ρ 9 ∧ ρ 9 ≤ 0 := zRnA hr 9
  have r11 : (0 : Int) ≤ ρ 11 ∧ ρ 11 ≤ 7 := zRnA hr 11
  obtain ⟨w_0, w_1⟩ : (ρ 11 ≥ 0) ∧ (ρ 9 = 0) := ⟨by omega, by omega⟩
  have m4 : γ 0 2 0 5 = ρ 5 := zAllA hm 4
  have m5 : γ 0 2 0 9 = ρ 6 := zAllA hm 5
  have m8 : γ 0 10 (ρ 0) 4 = ρ 9 := zAllA hm 8
  have m9 : γ 0 2 0 8 = ρ 10 := zAllA hm 9
  have l0 : sn120 [ρ 10, ρ 7] (γ 0) 0 (ρ 11) (γ 1) := hS120 _ _ _ _ _ (zAllA hl 0)
  have l1 : sn104 [ρ 0, 1, ρ 6, ρ 11, 0, ρ 3] (γ 1) 0 0 (γ 2) := hS104 _ _ _ _ _ (zAllA hl 1)
  show sn137 [ρ 0, ρ 1, ρ 2, ρ 3, ρ 4, ρ 5, ρ 6, ρ 7, ρ 8, ρ 9] (γ 0) 0 1 (γ 2)
  refine Eq.symm ?_
  show fn137 [ρ 0] (γ 0) = _
  unfold fn137
  refine zLV (ρ 0) rfl (zLE m4 (zLE m5 (zLE m8 (zLE m9 (zLE (show fn120 [ρ 10] (γ 0) = (0, ρ 11, γ 1) from l0.symm) (zLV (γ 1) rfl (zLV (ρ 11) rfl ?_)))))))
  refine zIP w_0 (zIP w_1 (zLE (show fn104 [ρ 0, 1, ρ 6, ρ 11, 0] (γ 1) = (0, 0, γ 2) from l1.symm) (zLV (γ 2) rfl ?_)))
  rfl
theorem vn137_1 {S : Nat → zSpc} (hS104 : zIm S 104 sn104) (hS109 : zIm S 109 sn109) (hS117 : zIm S 117 sn117) (hS120 : zIm S 120 sn120) (hS121 : zIm S 121 sn121) {a : List Int} {g : rHp} : ∀ (ρ : Nat → Int) (γ : Nat → rHp), zO 10 S a g q137_1 ρ γ → zGl (fun _ _ _ => True) (sn137 a g) q137_1 ρ γ := by
  intro ρ γ h
  obtain ⟨ha, hg, hr, hf, hm, hc, hl⟩ := h
  have ha : a = [ρ 0, ρ 1, ρ 2, ρ 3, ρ 4, ρ 5, ρ 6, ρ 7, ρ 8, ρ 9] := ha
  subst ha
  subst hg
  have r9 : (2 : Int) ≤ ρ 9 ∧ ρ 9 ≤ 8 := zRnA hr 9
  have r11 : (0 : Int) ≤ ρ 11 ∧ ρ 11 ≤ 7 := zRnA hr 11
  obtain ⟨w_0, w_1, w_2⟩ : (ρ 11 ≥ 0) ∧ (¬ (ρ 9 = 0)) ∧ (ρ 9 ≠ 1) := ⟨by omega, by omega, by omega⟩
  have m4 : γ 0 2 0 5 = ρ 5 := zAllA hm 4
  have m5 : γ 0 2 0 9 = ρ 6 := zAllA hm 5
  have m8 : γ 0 10 (ρ 0) 4 = ρ 9 := zAllA hm 8
  have m9 : γ 0 2 0 8 = ρ 10 := zAllA hm 9
  have l0 : sn120 [ρ 10, ρ 7] (γ 0) 0 (ρ 11) (γ 1) := hS120 _ _ _ _ _ (zAllA hl 0)
  have l1 : sn117 [ρ 11, ρ 5] (γ 1) 0 0 (γ 2) := hS117 _ _ _ _ _ (zAllA hl 1)
  have l2 : sn104 [ρ 0, 3, ρ 6, ρ 11, 0, ρ 3] (γ 2) 0 0 (γ 3) := hS104 _ _ _ _ _ (zAllA hl 2)
  have l3 : sn121 [ρ 11, ρ 6, ρ 8] (γ 3) 0 0 (γ 4) := hS121 _ _ _ _ _ (zAllA hl 3)
  show sn137 [ρ 0, ρ 1, ρ 2, ρ 3, ρ 4, ρ 5, ρ 6, ρ 7, ρ 8, ρ 9] (γ 0) 0 1 (γ 4)
  refine Eq.symm ?_
  show fn137 [ρ 0] (γ 0) = _
  unfold fn137
  refine zLV (ρ 0) rfl (zLE m4 (zLE m5 (zLE m8 (zLE m9 (zLE (show fn120 [ρ 10] (γ 0) = (0, ρ 11, γ 1) from l0.symm) (zLV (γ 1) rfl (zLV (ρ 11) rfl ?_)))))))
  refine zIP w_0 (zIN w_1 (zLE (show fn117 [ρ 11] (γ 1) = (0, 0, γ 2) from l1.symm) (zLV (γ 2) rfl (zIN zQ0_ (zIP w_2 (zLE (show fn104 [ρ 0, 3, ρ 6, ρ 11, 0] (γ 2) = (0, 0, γ 3) from l2.symm) (zLV (γ 3) rfl ?_)))))))
  refine zLE (show fn121 [ρ 11] (γ 3) = (0, 0, γ 4) from l3.symm) (zLV (γ 4) rfl ?_)
  rfl
theorem vn137_2 {S : Nat → zSpc} (hS104 : zIm S 104 sn104) (hS109 : zIm S 109 sn109) (hS117 : zIm S 117 sn117) (hS120 : zIm S 120 sn120) (hS121 : zIm S 121 sn121) {a : List Int} {g : rHp} : ∀ (ρ : Nat → Int) (γ : Nat → rHp), zO 10 S a g q137_2 ρ γ → zGl (fun _ _ _ => True) (sn137 a g) q137_2 ρ γ := by
  intro ρ γ h
  obtain ⟨ha, hg, hr, hf, hm, hc, hl⟩ := h
  have ha : a = [ρ 0, ρ 1, ρ 2, ρ 3, ρ 4, ρ 5, ρ 6, ρ 7, ρ 8, ρ 9] := ha
  subst ha
  subst hg
  have r9 : (1 : Int) ≤ ρ 9 ∧ ρ 9 ≤ 1 := zRnA hr 9
  have r11 : (0 : Int) ≤ ρ 11 ∧ ρ 11 ≤ 7 := zRnA hr 11
  obtain ⟨w_0, w_1, w_2⟩ : (ρ 11 ≥ 0) ∧ (¬ (ρ 9 = 0)) ∧ (¬ (ρ 9 ≠ 1)) := ⟨by omega, by omega, by omega⟩
  have m4 : γ 0 2 0 5 = ρ 5 := zAllA hm 4
  have m5 : γ 0 2 0 9 = ρ 6 := zAllA hm 5
  have m8 : γ 0 10 (ρ 0) 4 = ρ 9 := zAllA hm 8
  have m9 : γ 0 2 0 8 = ρ 10 := zAllA hm 9
  have c4 : γ 4 = rUp (γ 3) 2 0 5 (ρ 15) := And.right (zChA hc 0)
  have l0 : sn120 [ρ 10, ρ 7] (γ 0) 0 (ρ 11) (γ 1) := hS120 _ _ _ _ _ (zAllA hl 0)
  have l1 : sn117 [ρ 11, ρ 5] (γ 1) 0 0 (γ 2) := hS117 _ _ _ _ _ (zAllA hl 1)
  have l2 : sn104 [ρ 0, 2, ρ 6, ρ 11, 0, ρ 3] (γ 2) 0 0 (γ 3) := hS104 _ _ _ _ _ (zAllA hl 2)
  have l3 : zOpP (.ishl) (γ 0) (γ 1) [1, ρ 11] (ρ 14) := zAllA hl 3
  have l4 : zOpP (.ior) (γ 0) (γ 1) [ρ 5, ρ 14] (ρ 15) := zAllA hl 4
  show sn137 [ρ 0, ρ 1, ρ 2, ρ 3, ρ 4, ρ 5, ρ 6, ρ 7, ρ 8, ρ 9] (γ 0) 0 1 (γ 4)
  refine Eq.symm ?_
  show fn137 [ρ 0] (γ 0) = _
  unfold fn137
  refine zLV (ρ 0) rfl (zLE m4 (zLE m5 (zLE m8 (zLE m9 (zLE (show fn120 [ρ 10] (γ 0) = (0, ρ 11, γ 1) from l0.symm) (zLV (γ 1) rfl (zLV (ρ 11) rfl ?_)))))))
  refine zIP w_0 (zIN w_1 (zLE (show fn117 [ρ 11] (γ 1) = (0, 0, γ 2) from l1.symm) (zLV (γ 2) rfl (zIN zQ0_ (zIN w_2 (zLE (show fn104 [ρ 0, 2, ρ 6, ρ 11, 0] (γ 2) = (0, 0, γ 3) from l2.symm) (zLV (γ 3) rfl ?_)))))))
  refine zLE (zF2_ok l3) (zLE (zF2_ok l4) (zLE c4.symm ?_))
  rfl
theorem vn137_3 {S : Nat → zSpc} (hS104 : zIm S 104 sn104) (hS109 : zIm S 109 sn109) (hS117 : zIm S 117 sn117) (hS120 : zIm S 120 sn120) (hS121 : zIm S 121 sn121) {a : List Int} {g : rHp} : ∀ (ρ : Nat → Int) (γ : Nat → rHp), zO 10 S a g q137_3 ρ γ → zGl (fun _ _ _ => True) (sn137 a g) q137_3 ρ γ := by
  intro ρ γ h
  obtain ⟨ha, hg, hr, hf, hm, hc, hl⟩ := h
  have ha : a = [ρ 0, ρ 1, ρ 2, ρ 3, ρ 4, ρ 5, ρ 6, ρ 7, ρ 8, ρ 9] := ha
  subst ha
  subst hg
  have r9 : (1 : Int) ≤ ρ 9 ∧ ρ 9 ≤ 8 := zRnA hr 9
  have r11 : (0 : Int) ≤ ρ 11 ∧ ρ 11 ≤ 7 := zRnA hr 11
  obtain ⟨w_0, w_1⟩ : (ρ 11 ≥ 0) ∧ (¬ (ρ 9 = 0)) := ⟨by omega, by omega⟩
  have m4 : γ 0 2 0 5 = ρ 5 := zAllA hm 4
  have m5 : γ 0 2 0 9 = ρ 6 := zAllA hm 5
  have m8 : γ 0 10 (ρ 0) 4 = ρ 9 := zAllA hm 8
  have m9 : γ 0 2 0 8 = ρ 10 := zAllA hm 9
  have l0 : sn120 [ρ 10, ρ 7] (γ 0) 0 (ρ 11) (γ 1) := hS120 _ _ _ _ _ (zAllA hl 0)
  have l1 : sn117 [ρ 11, ρ 5] (γ 1) 0 1 (γ 2) := hS117 _ _ _ _ _ (zAllA hl 1)
  have l2 : sn104 [ρ 0, 1, ρ 6, ρ 11, 0, ρ 3] (γ 2) 0 0 (γ 3) := hS104 _ _ _ _ _ (zAllA hl 2)
  show sn137 [ρ 0, ρ 1, ρ 2, ρ 3, ρ 4, ρ 5, ρ 6, ρ 7, ρ 8, ρ 9] (γ 0) 0 1 (γ 3)
  refine Eq.symm ?_
  show fn137 [ρ 0] (γ 0) = _
  unfold fn137
  refine zLV (ρ 0) rfl (zLE m4 (zLE m5 (zLE m8 (zLE m9 (zLE (show fn120 [ρ 10] (γ 0) = (0, ρ 11, γ 1) from l0.symm) (zLV (γ 1) rfl (zLV (ρ 11) rfl ?_)))))))
  refine zIP w_0 (zIN w_1 (zLE (show fn117 [ρ 11] (γ 1) = (0, 1, γ 2) from l1.symm) (zLV (γ 2) rfl (zIP zQ1_ (zLE (show fn104 [ρ 0, 1, ρ 6, ρ 11, 0] (γ 2) = (0, 0, γ 3) from l2.symm) (zLV (γ 3) rfl ?_))))))
  rfl
theorem vn137_4 {S : Nat → zSpc} (hS104 : zIm S 104 sn104) (hS109 : zIm S 109 sn109) (hS117 : zIm S 117 sn117) (hS120 : zIm S 120 sn120) (hS121 : zIm S 121 sn121) {a : List Int} {g : rHp} : ∀ (ρ : Nat → Int) (γ : Nat → rHp), zO 10 S a g q137_4 ρ γ → zGl (fun _ _ _ => True) (sn137 a g) q137_4 ρ γ := by
  intro ρ γ h
  obtain ⟨ha, hg, hr, hf, hm, hc, hl⟩ := h
  have ha : a = [ρ 0, ρ 1, ρ 2, ρ 3, ρ 4, ρ 5, ρ 6, ρ 7, ρ 8, ρ 9] := ha
  subst ha
  subst hg
  have r11 : ((-1) : Int) ≤ ρ 11 ∧ ρ 11 ≤ (-1) := zRnA hr 11
  have w_0 : ¬ (ρ 11 ≥ 0) := by omega
  have m4 : γ 0 2 0 5 = ρ 5 := zAllA hm 4
  have m5 : γ 0 2 0 9 = ρ 6 := zAllA hm 5
  have m8 : γ 0 10 (ρ 0) 4 = ρ 9 := zAllA hm 8
  have m9 : γ 0 2 0 8 = ρ 10 := zAllA hm 9
  have l0 : sn120 [ρ 10, ρ 7] (γ 0) 0 (ρ 11) (γ 1) := hS120 _ _ _ _ _ (zAllA hl 0)
  have l1 : sn109 [ρ 6, ρ 4] (γ 1) 0 0 (γ 2) := hS109 _ _ _ _ _ (zAllA hl 1)
  show sn137 [ρ 0, ρ 1, ρ 2, ρ 3, ρ 4, ρ 5, ρ 6, ρ 7, ρ 8, ρ 9] (γ 0) 0 0 (γ 2)
  refine Eq.symm ?_
  show fn137 [ρ 0] (γ 0) = _
  unfold fn137
  refine zLV (ρ 0) rfl (zLE m4 (zLE m5 (zLE m8 (zLE m9 (zLE (show fn120 [ρ 10] (γ 0) = (0, ρ 11, γ 1) from l0.symm) (zLV (γ 1) rfl (zLV (ρ 11) rfl ?_)))))))
  refine zIN w_0 (zLE (show fn109 [ρ 6] (γ 1) = (0, 0, γ 2) from l1.symm) (zLV (γ 2) rfl ?_))
  rfl
theorem yn137 {S : Nat → zSpc} (hS104 : zIm S 104 sn104) (hS109 : zIm S 109 sn109) (hS117 : zIm S 117 sn117) (hS120 : zIm S 120 sn120) (hS121 : zIm S 121 sn121) : ∀ x g o v gz, zSem uW uT w137_.2.2.2.1 w137_.2.2.1.1.length S q137 (fun i => q137a.getD i []) (zNA a137_) x g o v gz → sn137 x g o v gz := by
  intro a g o v gz h
  exact zSem_all (l0 := q137) (las := q137a) (S := S) (J := (fun _ _ _ => True)) (P := sn137 a g) (fun _ => (show zAll _ [q137_0, q137_1, q137_2, q137_3, q137_4] from (zAll_c (vn137_0 hS104 hS109 hS117 hS120 hS121) (zAll_c (vn137_1 hS104 hS109 hS117 hS120 hS121) (zAll_c (vn137_2 hS104 hS109 hS117 hS120 hS121) (zAll_c (vn137_3 hS104 hS109 hS117 hS120 hS121) (zAll_c (vn137_4 hS104 hS109 hS117 hS120 hS121) zAll_n))))))) (fun _ => (show zAllI _ 0 [] from trivial)) h
theorem vn138_0 {S : Nat → zSpc} (hS104 : zIm S 104 sn104) (hS109 : zIm S 109 sn109) (hS117 : zIm S 117 sn117) (hS119 : zIm S 119 sn119) {a : List Int} {g : rHp} : ∀ (ρ : Nat → Int) (γ : Nat → rHp), zO 9 S a g q138_0 ρ γ → zGl (fun _ _ _ => True) (sn138 a g) q138_0 ρ γ := by
  intro ρ γ h
  obtain ⟨ha, hg, hr, hf, hm, hc, hl⟩ := h
  have ha : a = [ρ 0, ρ 1, ρ 2, ρ 3, ρ 4, ρ 5, ρ 6, ρ 7, ρ 8] := ha
  subst ha
  subst hg
  have r9 : ((-1) : Int) ≤ ρ 9 ∧ ρ 9 ≤ (-1) := zRnA hr 9
  have w_0 : ρ 9 < 0 := by omega
  have l0 : sn119 [ρ 1, ρ 8] (γ 0) 0 (ρ 9) (γ 1) := hS119 _ _ _ _ _ (zAllA hl 0)
  have l1 : sn109 [ρ 2, ρ 6] (γ 1) 0 0 (γ 2) := hS109 _ _ _ _ _ (zAllA hl 1)
  show sn138 [ρ 0, ρ 1, ρ 2, ρ 3, ρ 4, ρ 5, ρ 6, ρ 7, ρ 8] (γ 0) 0 0 (γ 2)
  refine Eq.symm ?_
  show fn138 [ρ 0, ρ 1, ρ 2] (γ 0) = _
  unfold fn138
  refine zLV (ρ 0) rfl (zLV (ρ 1) rfl (zLV (ρ 2) rfl (zLE (show fn119 [ρ 1] (γ 0) = (0, ρ 9, γ 1) from l0.symm) (zLV (γ 1) rfl (zLV (ρ 9) rfl (zIP w_0 (zLE (show fn109 [ρ 2] (γ 1) = (0, 0, γ 2) from l1.symm) ?_)))))))
  refine zLV (γ 2) rfl ?_
  rfl
theorem vn138_1 {S : Nat → zSpc} (hS104 : zIm S 104 sn104) (hS109 : zIm S 109 sn109) (hS117 : zIm S 117 sn117) (hS119 : zIm S 119 sn119) {a : List Int} {g : rHp} : ∀ (ρ : Nat → Int) (γ : Nat → rHp), zO 9 S a g q138_1 ρ γ → zGl (fun _ _ _ => True) (sn138 a g) q138_1 ρ γ := by
  intro ρ γ h
  obtain ⟨ha, hg, hr, hf, hm, hc, hl⟩ := h
  have ha : a = [ρ 0, ρ 1, ρ 2, ρ 3, ρ 4, ρ 5, ρ 6, ρ 7, ρ 8] := ha
  subst ha
  subst hg
  have r9 : (0 : Int) ≤ ρ 9 ∧ ρ 9 ≤ 8 := zRnA hr 9
  have w_0 : ¬ (ρ 9 < 0) := by omega
  have l0 : sn119 [ρ 1, ρ 8] (γ 0) 0 (ρ 9) (γ 1) := hS119 _ _ _ _ _ (zAllA hl 0)
  have l1 : sn117 [ρ 9, ρ 7] (γ 1) 0 0 (γ 2) := hS117 _ _ _ _ _ (zAllA hl 1)
  have l2 : sn109 [ρ 2, ρ 6] (γ 2) 0 0 (γ 3) := hS109 _ _ _ _ _ (zAllA hl 2)
  show sn138 [ρ 0, ρ 1, ρ 2, ρ 3, ρ 4, ρ 5, ρ 6, ρ 7, ρ 8] (γ 0) 0 0 (γ 3)
  refine Eq.symm ?_
  show fn138 [ρ 0, ρ 1, ρ 2] (γ 0) = _
  unfold fn138
  refine zLV (ρ 0) rfl (zLV (ρ 1) rfl (zLV (ρ 2) rfl (zLE (show fn119 [ρ 1] (γ 0) = (0, ρ 9, γ 1) from l0.symm) (zLV (γ 1) rfl (zLV (ρ 9) rfl (zIN w_0 (zLE (show fn117 [ρ 9] (γ 1) = (0, 0, γ 2) from l1.symm) ?_)))))))
  refine zLV (γ 2) rfl (zIN zQ0_ (zLE (show fn109 [ρ 2] (γ 2) = (0, 0, γ 3) from l2.symm) (zLV (γ 3) rfl ?_)))
  rfl
theorem vn138_2 {S : Nat → zSpc} (hS104 : zIm S 104 sn104) (hS109 : zIm S 109 sn109) (hS117 : zIm S 117 sn117) (hS119 : zIm S 119 sn119) {a : List Int} {g : rHp} : ∀ (ρ : Nat → Int) (γ : Nat → rHp), zO 9 S a g q138_2 ρ γ → zGl (fun _ _ _ => True) (sn138 a g) q138_2 ρ γ := by
  intro ρ γ h
  obtain ⟨ha, hg, hr, hf, hm, hc, hl⟩ := h
  have ha : a = [ρ 0, ρ 1, ρ 2, ρ 3, ρ 4, ρ 5, ρ 6, ρ 7, ρ 8] := ha
  subst ha
  subst hg
  have r9 : (0 : Int) ≤ ρ 9 ∧ ρ 9 ≤ 8 := zRnA hr 9
  have w_0 : ¬ (ρ 9 < 0) := by omega
  have m6 : γ 0 23 0 (ρ 9) = ρ 10 := zAllA hm 6
  have c3 : γ 3 = rUp (γ 2) 23 0 (ρ 9) (ρ 11) := And.right (zChA hc 1)
  have l0 : sn119 [ρ 1, ρ 8] (γ 0) 0 (ρ 9) (γ 1) := hS119 _ _ _ _ _ (zAllA hl 0)
  have l1 : sn117 [ρ 9, ρ 7] (γ 1) 0 1 (γ 2) := hS117 _ _ _ _ _ (zAllA hl 1)
  have l2 : zOpP (.iadd) (γ 0) (γ 1) [ρ 10, 1] (ρ 11) := zAllA hl 2
  have l3 : sn104 [ρ 0, 1, ρ 2, ρ 9, 0, ρ 5] (γ 3) 0 0 (γ 4) := hS104 _ _ _ _ _ (zAllA hl 3)
  show sn138 [ρ 0, ρ 1, ρ 2, ρ 3, ρ 4, ρ 5, ρ 6, ρ 7, ρ 8] (γ 0) 0 1 (γ 4)
  refine Eq.symm ?_
  show fn138 [ρ 0, ρ 1, ρ 2] (γ 0) = _
  unfold fn138
  refine zLV (ρ 0) rfl (zLV (ρ 1) rfl (zLV (ρ 2) rfl (zLE (show fn119 [ρ 1] (γ 0) = (0, ρ 9, γ 1) from l0.symm) (zLV (γ 1) rfl (zLV (ρ 9) rfl (zIN w_0 (zLE (show fn117 [ρ 9] (γ 1) = (0, 1, γ 2) from l1.symm) ?_)))))))
  refine zLV (γ 2) rfl (zIP zQ1_ (zLE m6 (zLE (zF2_ok l2) (zLE c3.symm (zLE (show fn104 [ρ 0, 1, ρ 2, ρ 9, 0] (γ 3) = (0, 0, γ 4) from l3.symm) (zLV (γ 4) rfl ?_))))))
  rfl
theorem yn138 {S : Nat → zSpc} (hS104 : zIm S 104 sn104) (hS109 : zIm S 109 sn109) (hS117 : zIm S 117 sn117) (hS119 : zIm S 119 sn119) : ∀ x g o v gz, zSem uW uT w138_.2.2.2.1 w138_.2.2.1.1.length S q138 (fun i => q138a.getD i []) (zNA a138_) x g o v gz → sn138 x g o v gz := by
  intro a g o v gz h
  exact zSem_all (l0 := q138) (las := q138a) (S := S) (J := (fun _ _ _ => True)) (P := sn138 a g) (fun _ => (show zAll _ [q138_0, q138_1, q138_2] from (zAll_c (vn138_0 hS104 hS109 hS117 hS119) (zAll_c (vn138_1 hS104 hS109 hS117 hS119) (zAll_c (vn138_2 hS104 hS109 hS117 hS119) zAll_n))))) (fun _ => (show zAllI _ 0 [] from trivial)) h
theorem vn139_0 {S : Nat → zSpc} (hS106 : zIm S 106 sn106) (hS114 : zIm S 114 sn114) (hS115 : zIm S 115 sn115) (hS136 : zIm S 136 sn136) (hS138 : zIm S 138 sn138) {a : List Int} {g : rHp} : ∀ (ρ : Nat → Int) (γ : Nat → rHp), zO 9 S a g q139_0 ρ γ → zGl (fun _ _ _ => True) (sn139 a g) q139_0 ρ γ := by
  intro ρ γ h
  obtain ⟨ha, hg, hr, hf, hm, hc, hl⟩ := h
  have ha : a = [ρ 0, ρ 1, ρ 2, ρ 3, ρ 4, ρ 5, ρ 6, ρ 7, ρ 8] := ha
  subst ha
  subst hg
  have l0 : sn114 [ρ 1, ρ 2] (γ 0) 0 (-1) (γ 1) := hS114 _ _ _ _ _ (zAllA hl 0)
  have l1 : sn106 [(-1)] (γ 1) 0 0 (γ 2) := hS106 _ _ _ _ _ (zAllA hl 1)
  have l2 : sn136 [ρ 0, ρ 9, ρ 2, ρ 3, ρ 4, ρ 6, ρ 8] (γ 2) 0 0 (γ 3) := hS136 _ _ _ _ _ (zAllA hl 2)
  show sn139 [ρ 0, ρ 1, ρ 2, ρ 3, ρ 4, ρ 5, ρ 6, ρ 7, ρ 8] (γ 0) 0 0 (γ 3)
  refine Eq.symm ?_
  show fn139 [ρ 0] (γ 0) = _
  unfold fn139
  refine zLV (ρ 0) rfl (zLE (show fn114 [] (γ 0) = (0, (-1), γ 1) from l0.symm) (zLV (γ 1) rfl (zIN zQ2_ (zLE (show fn106 [(-1)] (γ 1) = (0, 0, γ 2) from l1.symm) (zLV (γ 2) rfl (zLE (show fn136 [ρ 0] (γ 2) = (0, 0, γ 3) from l2.symm) (zLV (γ 3) rfl ?_)))))))
  rfl
theorem vn139_1 {S : Nat → zSpc} (hS106 : zIm S 106 sn106) (hS114 : zIm S 114 sn114) (hS115 : zIm S 115 sn115) (hS136 : zIm S 136 sn136) (hS138 : zIm S 138 sn138) {a : List Int} {g : rHp} : ∀ (ρ : Nat → Int) (γ : Nat → rHp), zO 9 S a g q139_1 ρ γ → zGl (fun _ _ _ => True) (sn139 a g) q139_1 ρ γ := by
  intro ρ γ h
  obtain ⟨ha, hg, hr, hf, hm, hc, hl⟩ := h
  have ha : a = [ρ 0, ρ 1, ρ 2, ρ 3, ρ 4, ρ 5, ρ 6, ρ 7, ρ 8] := ha
  subst ha
  subst hg
  have r9 : (0 : Int) ≤ ρ 9 ∧ ρ 9 ≤ 255 := zRnA hr 9
  have w_0 : (0 : Int) ≤ ρ 9 := by omega
  have m8 : γ 1 2 0 6 = ρ 10 := zAllA hm 8
  have l0 : sn114 [ρ 1, ρ 2] (γ 0) 0 (ρ 9) (γ 1) := hS114 _ _ _ _ _ (zAllA hl 0)
  have l1 : sn106 [ρ 9] (γ 1) 0 0 (γ 2) := hS106 _ _ _ _ _ (zAllA hl 1)
  have l2 : sn136 [ρ 0, ρ 10, ρ 2, ρ 3, ρ 4, ρ 6, ρ 8] (γ 2) 0 0 (γ 3) := hS136 _ _ _ _ _ (zAllA hl 2)
  show sn139 [ρ 0, ρ 1, ρ 2, ρ 3, ρ 4, ρ 5, ρ 6, ρ 7, ρ 8] (γ 0) 0 0 (γ 3)
  refine Eq.symm ?_
  show fn139 [ρ 0] (γ 0) = _
  unfold fn139
  refine zLV (ρ 0) rfl (zLE (show fn114 [] (γ 0) = (0, ρ 9, γ 1) from l0.symm) (zLV (γ 1) rfl (zIP w_0 (zLV (ρ 9) rfl (zLE m8 (zLE (show fn106 [ρ 9] (γ 1) = (0, 0, γ 2) from l1.symm) (zLV (γ 2) rfl ?_)))))))
  refine zIN zQ0_ (zLE (show fn136 [ρ 0] (γ 2) = (0, 0, γ 3) from l2.symm) (zLV (γ 3) rfl (zIN zQ0_ ?_)))
  rfl
theorem vn139_2 {S : Nat → zSpc} (hS106 : zIm S 106 sn106) (hS114 : zIm S 114 sn114) (hS115 : zIm S 115 sn115) (hS136 : zIm S 136 sn136) (hS138 : zIm S 138 sn138) {a : List Int} {g : rHp} : ∀ (ρ : Nat → Int) (γ : Nat → rHp), zO 9 S a g q139_2 ρ γ → zGl (fun _ _ _ => True) (sn139 a g) q139_2 ρ γ := by
  intro ρ γ h
  obtain ⟨ha, hg, hr, hf, hm, hc, hl⟩ := h
  have ha : a = [ρ 0, ρ 1, ρ 2, ρ 3, ρ 4, ρ 5, ρ 6, ρ 7, ρ 8] := ha
  subst ha
  subst hg
  have r9 : (0 : Int) ≤ ρ 9 ∧ ρ 9 ≤ 255 := zRnA hr 9
  have w_0 : (0 : Int) ≤ ρ 9 := by omega
  have m8 : γ 1 2 0 6 = ρ 10 := zAllA hm 8
  have l0 : sn114 [ρ 1, ρ 2] (γ 0) 0 (ρ 9) (γ 1) := hS114 _ _ _ _ _ (zAllA hl 0)
  have l1 : sn106 [ρ 9] (γ 1) 0 0 (γ 2) := hS106 _ _ _ _ _ (zAllA hl 1)
  have l2 : sn136 [ρ 0, ρ 10, ρ 2, ρ 3, ρ 4, ρ 6, ρ 8] (γ 2) 0 1 (γ 3) := hS136 _ _ _ _ _ (zAllA hl 2)
  show sn139 [ρ 0, ρ 1, ρ 2, ρ 3, ρ 4, ρ 5, ρ 6, ρ 7, ρ 8] (γ 0) 0 1 (γ 3)
  refine Eq.symm ?_
  show fn139 [ρ 0] (γ 0) = _
  unfold fn139
  refine zLV (ρ 0) rfl (zLE (show fn114 [] (γ 0) = (0, ρ 9, γ 1) from l0.symm) (zLV (γ 1) rfl (zIP w_0 (zLV (ρ 9) rfl (zLE m8 (zLE (show fn106 [ρ 9] (γ 1) = (0, 0, γ 2) from l1.symm) (zLV (γ 2) rfl ?_)))))))
  refine zIN zQ0_ (zLE (show fn136 [ρ 0] (γ 2) = (0, 1, γ 3) from l2.symm) (zLV (γ 3) rfl (zIP zQ1_ ?_)))
  rfl
theorem vn139_3 {S : Nat → zSpc} (hS106 : zIm S 106 sn106) (hS114 : zIm S 114 sn114) (hS115 : zIm S 115 sn115) (hS136 : zIm S 136 sn136) (hS138 : zIm S 138 sn138) {a : List Int} {g : rHp} : ∀ (ρ : Nat → Int) (γ : Nat → rHp), zO 9 S a g q139_3 ρ γ → zGl (fun _ _ _ => True) (sn139 a g) q139_3 ρ γ := by
  intro ρ γ h
  obtain ⟨ha, hg, hr, hf, hm, hc, hl⟩ := h
  have ha : a = [ρ 0, ρ 1, ρ 2, ρ 3, ρ 4, ρ 5, ρ 6, ρ 7, ρ 8] := ha
  subst ha
  subst hg
  have r9 : (65 : Int) ≤ ρ 9 ∧ ρ 9 ≤ 90 := zRnA hr 9
  have w_0 : (0 : Int) ≤ ρ 9 := by omega
  have m8 : γ 1 2 0 6 = ρ 10 := zAllA hm 8
  have l0 : sn114 [ρ 1, ρ 2] (γ 0) 0 (ρ 9) (γ 1) := hS114 _ _ _ _ _ (zAllA hl 0)
  have l1 : sn106 [ρ 9] (γ 1) 0 1 (γ 2) := hS106 _ _ _ _ _ (zAllA hl 1)
  have l2 : sn115 [ρ 10, ρ 2, ρ 4, ρ 6] (γ 2) 0 0 (γ 3) := hS115 _ _ _ _ _ (zAllA hl 2)
  show sn139 [ρ 0, ρ 1, ρ 2, ρ 3, ρ 4, ρ 5, ρ 6, ρ 7, ρ 8] (γ 0) 0 0 (γ 3)
  refine Eq.symm ?_
  show fn139 [ρ 0] (γ 0) = _
  unfold fn139
  refine zLV (ρ 0) rfl (zLE (show fn114 [] (γ 0) = (0, ρ 9, γ 1) from l0.symm) (zLV (γ 1) rfl (zIP w_0 (zLV (ρ 9) rfl (zLE m8 (zLE (show fn106 [ρ 9] (γ 1) = (0, 1, γ 2) from l1.symm) (zLV (γ 2) rfl ?_)))))))
  refine zIP zQ1_ (zLE (show fn115 [] (γ 2) = (0, 0, γ 3) from l2.symm) (zLV (γ 3) rfl (zIN zQ0_ ?_)))
  rfl
theorem vn139_4 {S : Nat → zSpc} (hS106 : zIm S 106 sn106) (hS114 : zIm S 114 sn114) (hS115 : zIm S 115 sn115) (hS136 : zIm S 136 sn136) (hS138 : zIm S 138 sn138) {a : List Int} {g : rHp} : ∀ (ρ : Nat → Int) (γ : Nat → rHp), zO 9 S a g q139_4 ρ γ → zGl (fun _ _ _ => True) (sn139 a g) q139_4 ρ γ := by
  intro ρ γ h
  obtain ⟨ha, hg, hr, hf, hm, hc, hl⟩ := h
  have ha : a = [ρ 0, ρ 1, ρ 2, ρ 3, ρ 4, ρ 5, ρ 6, ρ 7, ρ 8] := ha
  subst ha
  subst hg
  have r9 : (65 : Int) ≤ ρ 9 ∧ ρ 9 ≤ 90 := zRnA hr 9
  have w_0 : (0 : Int) ≤ ρ 9 := by omega
  have m8 : γ 1 2 0 6 = ρ 10 := zAllA hm 8
  have m12 : γ 3 2 0 8 = ρ 12 := zAllA hm 12
  have l0 : sn114 [ρ 1, ρ 2] (γ 0) 0 (ρ 9) (γ 1) := hS114 _ _ _ _ _ (zAllA hl 0)
  have l1 : sn106 [ρ 9] (γ 1) 0 1 (γ 2) := hS106 _ _ _ _ _ (zAllA hl 1)
  have l2 : sn115 [ρ 10, ρ 2, ρ 4, ρ 6] (γ 2) 0 1 (γ 3) := hS115 _ _ _ _ _ (zAllA hl 2)
  have l3 : sn138 [ρ 0, ρ 12, ρ 10, ρ 11, ρ 2, ρ 3, ρ 4, ρ 5, ρ 7] (γ 3) 0 0 (γ 4) := hS138 _ _ _ _ _ (zAllA hl 3)
  show sn139 [ρ 0, ρ 1, ρ 2, ρ 3, ρ 4, ρ 5, ρ 6, ρ 7, ρ 8] (γ 0) 0 0 (γ 4)
  refine Eq.symm ?_
  show fn139 [ρ 0] (γ 0) = _
  unfold fn139
  refine zLV (ρ 0) rfl (zLE (show fn114 [] (γ 0) = (0, ρ 9, γ 1) from l0.symm) (zLV (γ 1) rfl (zIP w_0 (zLV (ρ 9) rfl (zLE m8 (zLE (show fn106 [ρ 9] (γ 1) = (0, 1, γ 2) from l1.symm) (zLV (γ 2) rfl ?_)))))))
  refine zIP zQ1_ (zLE (show fn115 [] (γ 2) = (0, 1, γ 3) from l2.symm) (zLV (γ 3) rfl (zIP zQ1_ (zLE m12 (zLE (show fn138 [ρ 0, ρ 12, ρ 10] (γ 3) = (0, 0, γ 4) from l3.symm) (zLV (γ 4) rfl (zIN zQ0_ ?_)))))))
  rfl
theorem vn139_5 {S : Nat → zSpc} (hS106 : zIm S 106 sn106) (hS114 : zIm S 114 sn114) (hS115 : zIm S 115 sn115) (hS136 : zIm S 136 sn136) (hS138 : zIm S 138 sn138) {a : List Int} {g : rHp} : ∀ (ρ : Nat → Int) (γ : Nat → rHp), zO 9 S a g q139_5 ρ γ → zGl (fun _ _ _ => True) (sn139 a g) q139_5 ρ γ := by
  intro ρ γ h
  obtain ⟨ha, hg, hr, hf, hm, hc, hl⟩ := h
  have ha : a = [ρ 0, ρ 1, ρ 2, ρ 3, ρ 4, ρ 5, ρ 6, ρ 7, ρ 8] := ha
  subst ha
  subst hg
  have r9 : (65 : Int) ≤ ρ 9 ∧ ρ 9 ≤ 90 := zRnA hr 9
  have w_0 : (0 : Int) ≤ ρ 9 := by omega
  have m8 : γ 1 2 0 6 = ρ 10 := zAllA hm 8
  have m12 : γ 3 2 0 8 = ρ 12 := zAllA hm 12
  have l0 : sn114 [ρ 1, ρ 2] (γ 0) 0 (ρ 9) (γ 1) := hS114 _ _ _ _ _ (zAllA hl 0)
  have l1 : sn106 [ρ 9] (γ 1) 0 1 (γ 2) := hS106 _ _ _ _ _ (zAllA hl 1)
  have l2 : sn115 [ρ 10, ρ 2, ρ 4, ρ 6] (γ 2) 0 1 (γ 3) := hS115 _ _ _ _ _ (zAllA hl 2)
  have l3 : sn138 [ρ 0, ρ 12, ρ 10, ρ 11, ρ 2, ρ 3, ρ 4, ρ 5, ρ 7] (γ 3) 0 1 (γ 4) := hS138 _ _ _ _ _ (zAllA hl 3)
  show sn139 [ρ 0, ρ 1, ρ 2, ρ 3, ρ 4, ρ 5, ρ 6, ρ 7, ρ 8] (γ 0) 0 1 (γ 4)
  refine Eq.symm ?_
  show fn139 [ρ 0] (γ 0) = _
  unfold fn139
  refine zLV (ρ 0) rfl (zLE (show fn114 [] (γ 0) = (0, ρ 9, γ 1) from l0.symm) (zLV (γ 1) rfl (zIP w_0 (zLV (ρ 9) rfl (zLE m8 (zLE (show fn106 [ρ 9] (γ 1) = (0, 1, γ 2) from l1.symm) (zLV (γ 2) rfl ?_)))))))
  refine zIP zQ1_ (zLE (show fn115 [] (γ 2) = (0, 1, γ 3) from l2.symm) (zLV (γ 3) rfl (zIP zQ1_ (zLE m12 (zLE (show fn138 [ρ 0, ρ 12, ρ 10] (γ 3) = (0, 1, γ 4) from l3.symm) (zLV (γ 4) rfl (zIP zQ1_ ?_)))))))
  rfl
theorem yn139 {S : Nat → zSpc} (hS106 : zIm S 106 sn106) (hS114 : zIm S 114 sn114) (hS115 : zIm S 115 sn115) (hS136 : zIm S 136 sn136) (hS138 : zIm S 138 sn138) : ∀ x g o v gz, zSem uW uT w139_.2.2.2.1 w139_.2.2.1.1.length S q139 (fun i => q139a.getD i []) (zNA a139_) x g o v gz → sn139 x g o v gz := by
  intro a g o v gz h
  exact zSem_all (l0 := q139) (las := q139a) (S := S) (J := (fun _ _ _ => True)) (P := sn139 a g) (fun _ => (show zAll _ [q139_0, q139_1, q139_2, q139_3, q139_4, q139_5] from (zAll_c (vn139_0 hS106 hS114 hS115 hS136 hS138) (zAll_c (vn139_1 hS106 hS114 hS115 hS136 hS138) (zAll_c (vn139_2 hS106 hS114 hS115 hS136 hS138) (zAll_c (vn139_3 hS106 hS114 hS115 hS136 hS138) (zAll_c (vn139_4 hS106 hS114 hS115 hS136 hS138) (zAll_c (vn139_5 hS106 hS114 hS115 hS136 hS138) zAll_n)))))))) (fun _ => (show zAllI _ 0 [] from trivial)) h
theorem vn140_0 {S : Nat → zSpc} (hS104 : zIm S 104 sn104) (hS105 : zIm S 105 sn105) (hS106 : zIm S 106 sn106) (hS109 : zIm S 109 sn109) (hS114 : zIm S 114 sn114) (hS115 : zIm S 115 sn115) (hS120 : zIm S 120 sn120) (hS122 : zIm S 122 sn122) {a : List Int} {g : rHp} : ∀ (ρ : Nat → Int) (γ : Nat → rHp), zO 13 S a g q140_0 ρ γ → zGl (fun _ _ _ => True) (sn140 a g) q140_0 ρ γ := by
  intro ρ γ h
  obtain ⟨ha, hg, hr, hf, hm, hc, hl⟩ := h
  have ha : a = [ρ 0, ρ 1, ρ 2, ρ 3, ρ 4, ρ 5, ρ 6, ρ 7, ρ 8, ρ 9, ρ 10, ρ 11, ρ 12] := ha
  subst ha
  subst hg
  have r6 : (0 : Int) ≤ ρ 6 ∧ ρ 6 ≤ 0 := zRnA hr 6
  have w_0 : ρ 6 = 0 := by omega
  have m0 : γ 0 1 0 10 = ρ 0 := zAllA hm 0
  have m1 : γ 0 40 0 (ρ 0) = ρ 1 := zAllA hm 1
  have m3 : γ 0 2 0 6 = ρ 3 := zAllA hm 3
  have m5 : γ 0 10 (9 * ρ 1) 5 = ρ 5 := zAllA hm 5
  have m6 : γ 0 10 (9 * ρ 1) 12 = ρ 6 := zAllA hm 6
  have m14 : γ 4 2 0 6 = ρ 14 := zAllA hm 14
  have c1 : γ 1 = rUp (γ 0) 10 (9 * ρ 1) 13 (ρ 5) := And.right (zChA hc 5)
  have c3 : γ 3 = rUp (γ 2) 2 0 6 (ρ 3 + 1) := And.right (zChA hc 3)
  have l0 : sn104 [9 * ρ 1, 4, ρ 3, 0, 0, ρ 5] (γ 1) 0 0 (γ 2) := hS104 _ _ _ _ _ (zAllA hl 0)
  have l1 : sn114 [ρ 3 + 1, ρ 4] (γ 3) 0 (-1) (γ 4) := hS114 _ _ _ _ _ (zAllA hl 1)
  have l2 : sn105 [(-1)] (γ 4) 0 0 (γ 5) := hS105 _ _ _ _ _ (zAllA hl 2)
  have l3 : sn109 [ρ 14, ρ 8] (γ 5) 0 0 (γ 6) := hS109 _ _ _ _ _ (zAllA hl 3)
  show sn140 [ρ 0, ρ 1, ρ 2, ρ 3, ρ 4, ρ 5, ρ 6, ρ 7, ρ 8, ρ 9, ρ 10, ρ 11, ρ 12] (γ 0) 0 0 (γ 6)
  refine Eq.symm ?_
  show fn140 [] (γ 0) = _
  unfold fn140
  refine zLE m0 (zLE m1 (zLE m3 (zLE m5 (zLE m6 (zIP w_0 (zLE c1.symm (zLE (show fn104 [9 * ρ 1, 4, ρ 3, 0, 0] (γ 1) = (0, 0, γ 2) from l0.symm) ?_)))))))
  refine zLV (γ 2) rfl (zLE c3.symm (zLE (show fn114 [] (γ 3) = (0, (-1), γ 4) from l1.symm) (zLV (γ 4) rfl (zIN zQ2_ (zLE m14 (zLE (show fn105 [(-1)] (γ 4) = (0, 0, γ 5) from l2.symm) (zLV (γ 5) rfl ?_)))))))
  refine zLE (show fn109 [ρ 14] (γ 5) = (0, 0, γ 6) from l3.symm) (zLV (γ 6) rfl ?_)
  rfl
theorem vn140_1 {S : Nat → zSpc} (hS104 : zIm S 104 sn104) (hS105 : zIm S 105 sn105) (hS106 : zIm S 106 sn106) (hS109 : zIm S 109 sn109) (hS114 : zIm S 114 sn114) (hS115 : zIm S 115 sn115) (hS120 : zIm S 120 sn120) (hS122 : zIm S 122 sn122) {a : List Int} {g : rHp} : ∀ (ρ : Nat → Int) (γ : Nat → rHp), zO 13 S a g q140_1 ρ γ → zGl (fun _ _ _ => True) (sn140 a g) q140_1 ρ γ := by
  intro ρ γ h
  obtain ⟨ha, hg, hr, hf, hm, hc, hl⟩ := h
  have ha : a = [ρ 0, ρ 1, ρ 2, ρ 3, ρ 4, ρ 5, ρ 6, ρ 7, ρ 8, ρ 9, ρ 10, ρ 11, ρ 12] := ha
  subst ha
  subst hg
  have r6 : (0 : Int) ≤ ρ 6 ∧ ρ 6 ≤ 0 := zRnA hr 6
  have r14 : (0 : Int) ≤ ρ 14 ∧ ρ 14 ≤ 255 := zRnA hr 14
  obtain ⟨w_0, w_1⟩ : (ρ 6 = 0) ∧ ((0 : Int) ≤ ρ 14) := ⟨by omega, by omega⟩
  have m0 : γ 0 1 0 10 = ρ 0 := zAllA hm 0
  have m1 : γ 0 40 0 (ρ 0) = ρ 1 := zAllA hm 1
  have m3 : γ 0 2 0 6 = ρ 3 := zAllA hm 3
  have m5 : γ 0 10 (9 * ρ 1) 5 = ρ 5 := zAllA hm 5
  have m6 : γ 0 10 (9 * ρ 1) 12 = ρ 6 := zAllA hm 6
  have m14 : γ 4 2 0 6 = ρ 15 := zAllA hm 14
  have c1 : γ 1 = rUp (γ 0) 10 (9 * ρ 1) 13 (ρ 5) := And.right (zChA hc 5)
  have c3 : γ 3 = rUp (γ 2) 2 0 6 (ρ 3 + 1) := And.right (zChA hc 3)
  have l0 : sn104 [9 * ρ 1, 4, ρ 3, 0, 0, ρ 5] (γ 1) 0 0 (γ 2) := hS104 _ _ _ _ _ (zAllA hl 0)
  have l1 : sn114 [ρ 3 + 1, ρ 4] (γ 3) 0 (ρ 14) (γ 4) := hS114 _ _ _ _ _ (zAllA hl 1)
  have l2 : sn105 [ρ 14] (γ 4) 0 0 (γ 5) := hS105 _ _ _ _ _ (zAllA hl 2)
  have l3 : sn109 [ρ 15, ρ 8] (γ 5) 0 0 (γ 6) := hS109 _ _ _ _ _ (zAllA hl 3)
  show sn140 [ρ 0, ρ 1, ρ 2, ρ 3, ρ 4, ρ 5, ρ 6, ρ 7, ρ 8, ρ 9, ρ 10, ρ 11, ρ 12] (γ 0) 0 0 (γ 6)
  refine Eq.symm ?_
  show fn140 [] (γ 0) = _
  unfold fn140
  refine zLE m0 (zLE m1 (zLE m3 (zLE m5 (zLE m6 (zIP w_0 (zLE c1.symm (zLE (show fn104 [9 * ρ 1, 4, ρ 3, 0, 0] (γ 1) = (0, 0, γ 2) from l0.symm) ?_)))))))
  refine zLV (γ 2) rfl (zLE c3.symm (zLE (show fn114 [] (γ 3) = (0, ρ 14, γ 4) from l1.symm) (zLV (γ 4) rfl (zIP w_1 (zLV (ρ 14) rfl (zLE m14 (zLE (show fn105 [ρ 14] (γ 4) = (0, 0, γ 5) from l2.symm) ?_)))))))
  refine zLV (γ 5) rfl (zIN zQ0_ (zLE (show fn109 [ρ 15] (γ 5) = (0, 0, γ 6) from l3.symm) (zLV (γ 6) rfl ?_)))
  rfl
theorem vn140_2 {S : Nat → zSpc} (hS104 : zIm S 104 sn104) (hS105 : zIm S 105 sn105) (hS106 : zIm S 106 sn106) (hS109 : zIm S 109 sn109) (hS114 : zIm S 114 sn114) (hS115 : zIm S 115 sn115) (hS120 : zIm S 120 sn120) (hS122 : zIm S 122 sn122) {a : List Int} {g : rHp} : ∀ (ρ : Nat → Int) (γ : Nat → rHp), zO 13 S a g q140_2 ρ γ → zGl (fun _ _ _ => True) (sn140 a g) q140_2 ρ γ := by
  intro ρ γ h
  obtain ⟨ha, hg, hr, hf, hm, hc, hl⟩ := h
  have ha : a = [ρ 0, ρ 1, ρ 2, ρ 3, ρ 4, ρ 5, ρ 6, ρ 7, ρ 8, ρ 9, ρ 10, ρ 11, ρ 12] := ha
  subst ha
  subst hg
  have r6 : (0 : Int) ≤ ρ 6 ∧ ρ 6 ≤ 0 := zRnA hr 6
  have r14 : (97 : Int) ≤ ρ 14 ∧ ρ 14 ≤ 122 := zRnA hr 14
  obtain ⟨w_0, w_1⟩ : (ρ 6 = 0) ∧ ((0 : Int) ≤ ρ 14) := ⟨by omega, by omega⟩
  have m0 : γ 0 1 0 10 = ρ 0 := zAllA hm 0
  have m1 : γ 0 40 0 (ρ 0) = ρ 1 := zAllA hm 1
  have m3 : γ 0 2 0 6 = ρ 3 := zAllA hm 3
  have m5 : γ 0 10 (9 * ρ 1) 5 = ρ 5 := zAllA hm 5
  have m6 : γ 0 10 (9 * ρ 1) 12 = ρ 6 := zAllA hm 6
  have m14 : γ 4 2 0 6 = ρ 15 := zAllA hm 14
  have c1 : γ 1 = rUp (γ 0) 10 (9 * ρ 1) 13 (ρ 5) := And.right (zChA hc 5)
  have c3 : γ 3 = rUp (γ 2) 2 0 6 (ρ 3 + 1) := And.right (zChA hc 3)
  have l0 : sn104 [9 * ρ 1, 4, ρ 3, 0, 0, ρ 5] (γ 1) 0 0 (γ 2) := hS104 _ _ _ _ _ (zAllA hl 0)
  have l1 : sn114 [ρ 3 + 1, ρ 4] (γ 3) 0 (ρ 14) (γ 4) := hS114 _ _ _ _ _ (zAllA hl 1)
  have l2 : sn105 [ρ 14] (γ 4) 0 1 (γ 5) := hS105 _ _ _ _ _ (zAllA hl 2)
  have l3 : sn115 [ρ 15, ρ 4, ρ 8, ρ 9] (γ 5) 0 0 (γ 6) := hS115 _ _ _ _ _ (zAllA hl 3)
  show sn140 [ρ 0, ρ 1, ρ 2, ρ 3, ρ 4, ρ 5, ρ 6, ρ 7, ρ 8, ρ 9, ρ 10, ρ 11, ρ 12] (γ 0) 0 0 (γ 6)
  refine Eq.symm ?_
  show fn140 [] (γ 0) = _
  unfold fn140
  refine zLE m0 (zLE m1 (zLE m3 (zLE m5 (zLE m6 (zIP w_0 (zLE c1.symm (zLE (show fn104 [9 * ρ 1, 4, ρ 3, 0, 0] (γ 1) = (0, 0, γ 2) from l0.symm) ?_)))))))
  refine zLV (γ 2) rfl (zLE c3.symm (zLE (show fn114 [] (γ 3) = (0, ρ 14, γ 4) from l1.symm) (zLV (γ 4) rfl (zIP w_1 (zLV (ρ 14) rfl (zLE m14 (zLE (show fn105 [ρ 14] (γ 4) = (0, 1, γ 5) from l2.symm) ?_)))))))
  refine zLV (γ 5) rfl (zIP zQ1_ (zLE (show fn115 [] (γ 5) = (0, 0, γ 6) from l3.symm) (zLV (γ 6) rfl (zIN zQ0_ ?_))))
  rfl
theorem vn140_3 {S : Nat → zSpc} (hS104 : zIm S 104 sn104) (hS105 : zIm S 105 sn105) (hS106 : zIm S 106 sn106) (hS109 : zIm S 109 sn109) (hS114 : zIm S 114 sn114) (hS115 : zIm S 115 sn115) (hS120 : zIm S 120 sn120) (hS122 : zIm S 122 sn122) {a : List Int} {g : rHp} : ∀ (ρ : Nat → Int) (γ : Nat → rHp), zO 13 S a g q140_3 ρ γ → zGl (fun _ _ _ => True) (sn140 a g) q140_3 ρ γ := by
  intro ρ γ h
  obtain ⟨ha, hg, hr, hf, hm, hc, hl⟩ := h
  have ha : a = [ρ 0, ρ 1, ρ 2, ρ 3, ρ 4, ρ 5, ρ 6, ρ 7, ρ 8, ρ 9, ρ 10, ρ 11, ρ 12] := ha
  subst ha
  subst hg
  have r6 : (0 : Int) ≤ ρ 6 ∧ ρ 6 ≤ 0 := zRnA hr 6
  have r14 : (97 : Int) ≤ ρ 14 ∧ ρ 14 ≤ 122 := zRnA hr 14
  have r18 : (2 : Int) ≤ ρ 18 ∧ ρ 18 ≤ 4 := zRnA hr 18
  obtain ⟨w_0, w_1, w_2, w_3⟩ : (ρ 6 = 0) ∧ ((0 : Int) ≤ ρ 14) ∧ (ρ 18 ≠ 0) ∧ (ρ 18 ≠ 1) := ⟨by omega, by omega, by omega, by omega⟩
  have m0 : γ 0 1 0 10 = ρ 0 := zAllA hm 0
  have m1 : γ 0 40 0 (ρ 0) = ρ 1 := zAllA hm 1
  have m3 : γ 0 2 0 6 = ρ 3 := zAllA hm 3
  have m5 : γ 0 10 (9 * ρ 1) 5 = ρ 5 := zAllA hm 5
  have m6 : γ 0 10 (9 * ρ 1) 12 = ρ 6 := zAllA hm 6
  have m14 : γ 4 2 0 6 = ρ 15 := zAllA hm 14
  have m18 : γ 6 2 0 8 = ρ 17 := zAllA hm 18
  have m19 : γ 9 2 0 6 = ρ 19 := zAllA hm 19
  have c1 : γ 1 = rUp (γ 0) 10 (9 * ρ 1) 13 (ρ 5) := And.right (zChA hc 10)
  have c3 : γ 3 = rUp (γ 2) 2 0 6 (ρ 3 + 1) := And.right (zChA hc 8)
  have c8 : γ 8 = rUp (γ 7) 10 (9 * ρ 1) 12 (ρ 18) := And.right (zChA hc 3)
  have l0 : sn104 [9 * ρ 1, 4, ρ 3, 0, 0, ρ 5] (γ 1) 0 0 (γ 2) := hS104 _ _ _ _ _ (zAllA hl 0)
  have l1 : sn114 [ρ 3 + 1, ρ 4] (γ 3) 0 (ρ 14) (γ 4) := hS114 _ _ _ _ _ (zAllA hl 1)
  have l2 : sn105 [ρ 14] (γ 4) 0 1 (γ 5) := hS105 _ _ _ _ _ (zAllA hl 2)
  have l3 : sn115 [ρ 15, ρ 4, ρ 8, ρ 9] (γ 5) 0 1 (γ 6) := hS115 _ _ _ _ _ (zAllA hl 3)
  have l4 : sn122 [ρ 17] (γ 6) 0 (ρ 18) (γ 7) := hS122 _ _ _ _ _ (zAllA hl 4)
  have l5 : sn114 [ρ 16, ρ 4] (γ 8) 0 (-1) (γ 9) := hS114 _ _ _ _ _ (zAllA hl 5)
  have l6 : sn106 [(-1)] (γ 9) 0 0 (γ 10) := hS106 _ _ _ _ _ (zAllA hl 6)
  have l7 : sn109 [ρ 19, ρ 8] (γ 10) 0 0 (γ 11) := hS109 _ _ _ _ _ (zAllA hl 7)
  show sn140 [ρ 0, ρ 1, ρ 2, ρ 3, ρ 4, ρ 5, ρ 6, ρ 7, ρ 8, ρ 9, ρ 10, ρ 11, ρ 12] (γ 0) 0 0 (γ 11)
  refine Eq.symm ?_
  show fn140 [] (γ 0) = _
  unfold fn140
  refine zLE m0 (zLE m1 (zLE m3 (zLE m5 (zLE m6 (zIP w_0 (zLE c1.symm (zLE (show fn104 [9 * ρ 1, 4, ρ 3, 0, 0] (γ 1) = (0, 0, γ 2) from l0.symm) ?_)))))))
  refine zLV (γ 2) rfl (zLE c3.symm (zLE (show fn114 [] (γ 3) = (0, ρ 14, γ 4) from l1.symm) (zLV (γ 4) rfl (zIP w_1 (zLV (ρ 14) rfl (zLE m14 (zLE (show fn105 [ρ 14] (γ 4) = (0, 1, γ 5) from l2.symm) ?_)))))))
  refine zLV (γ 5) rfl (zIP zQ1_ (zLE (show fn115 [] (γ 5) = (0, 1, γ 6) from l3.symm) (zLV (γ 6) rfl (zIP zQ1_ (zLE m18 (zLE (show fn122 [ρ 17] (γ 6) = (0, ρ 18, γ 7) from l4.symm) (zLV (γ 7) rfl ?_)))))))
  refine zLV (ρ 18) rfl (zLE c8.symm (zIP w_2 (zIP w_3 (zLE (show fn114 [] (γ 8) = (0, (-1), γ 9) from l5.symm) (zLV (γ 9) rfl (zIN zQ2_ (zLE m19 ?_)))))))
  refine zLE (show fn106 [(-1)] (γ 9) = (0, 0, γ 10) from l6.symm) (zLV (γ 10) rfl (zLE (show fn109 [ρ 19] (γ 10) = (0, 0, γ 11) from l7.symm) (zLV (γ 11) rfl ?_)))
  rfl
theorem vn140_4 {S : Nat → zSpc} (hS104 : zIm S 104 sn104) (hS105 : zIm S 105 sn105) (hS106 : zIm S 106 sn106) (hS109 : zIm S 109 sn109) (hS114 : zIm S 114 sn114) (hS115 : zIm S 115 sn115) (hS120 : zIm S 120 sn120) (hS122 : zIm S 122 sn122) {a : List Int} {g : rHp} : ∀ (ρ : Nat → Int) (γ : Nat → rHp), zO 13 S a g q140_4 ρ γ → zGl (fun _ _ _ => True) (sn140 a g) q140_4 ρ γ := by
  intro ρ γ h
  obtain ⟨ha, hg, hr, hf, hm, hc, hl⟩ := h
  have ha : a = [ρ 0, ρ 1, ρ 2, ρ 3, ρ 4, ρ 5, ρ 6, ρ 7, ρ 8, ρ 9, ρ 10, ρ 11, ρ 12] := ha
  subst ha
  subst hg
  have r6 : (0 : Int) ≤ ρ 6 ∧ ρ 6 ≤ 0 := zRnA hr 6
  have r14 : (97 : Int) ≤ ρ 14 ∧ ρ 14 ≤ 122 := zRnA hr 14
  have r18 : (2 : Int) ≤ ρ 18 ∧ ρ 18 ≤ 4 := zRnA hr 18
  have r19 : (0 : Int) ≤ ρ 19 ∧ ρ 19 ≤ 255 := zRnA hr 19
  obtain ⟨w_0, w_1, w_2, w_3, w_4⟩ : (ρ 6 = 0) ∧ ((0 : Int) ≤ ρ 14) ∧ (ρ 18 ≠ 0) ∧ (ρ 18 ≠ 1) ∧ ((0 : Int) ≤ ρ 19) := ⟨by omega, by omega, by omega, by omega, by omega⟩
  have m0 : γ 0 1 0 10 = ρ 0 := zAllA hm 0
  have m1 : γ 0 40 0 (ρ 0) = ρ 1 := zAllA hm 1
  have m3 : γ 0 2 0 6 = ρ 3 := zAllA hm 3
  have m5 : γ 0 10 (9 * ρ 1) 5 = ρ 5 := zAllA hm 5
  have m6 : γ 0 10 (9 * ρ 1) 12 = ρ 6 := zAllA hm 6
  have m14 : γ 4 2 0 6 = ρ 15 := zAllA hm 14
  have m18 : γ 6 2 0 8 = ρ 17 := zAllA hm 18
  have m19 : γ 9 2 0 6 = ρ 20 := zAllA hm 19
  have c1 : γ 1 = rUp (γ 0) 10 (9 * ρ 1) 13 (ρ 5) := And.right (zChA hc 10)
  have c3 : γ 3 = rUp (γ 2) 2 0 6 (ρ 3 + 1) := And.right (zChA hc 8)
  have c8 : γ 8 = rUp (γ 7) 10 (9 * ρ 1) 12 (ρ 18) := And.right (zChA hc 3)
  have l0 : sn104 [9 * ρ 1, 4, ρ 3, 0, 0, ρ 5] (γ 1) 0 0 (γ 2) := hS104 _ _ _ _ _ (zAllA hl 0)
  have l1 : sn114 [ρ 3 + 1, ρ 4] (γ 3) 0 (ρ 14) (γ 4) := hS114 _ _ _ _ _ (zAllA hl 1)
  have l2 : sn105 [ρ 14] (γ 4) 0 1 (γ 5) := hS105 _ _ _ _ _ (zAllA hl 2)
  have l3 : sn115 [ρ 15, ρ 4, ρ 8, ρ 9] (γ 5) 0 1 (γ 6) := hS115 _ _ _ _ _ (zAllA hl 3)
  have l4 : sn122 [ρ 17] (γ 6) 0 (ρ 18) (γ 7) := hS122 _ _ _ _ _ (zAllA hl 4)
  have l5 : sn114 [ρ 16, ρ 4] (γ 8) 0 (ρ 19) (γ 9) := hS114 _ _ _ _ _ (zAllA hl 5)
  have l6 : sn106 [ρ 19] (γ 9) 0 0 (γ 10) := hS106 _ _ _ _ _ (zAllA hl 6)
  have l7 : sn109 [ρ 20, ρ 8] (γ 10) 0 0 (γ 11) := hS109 _ _ _ _ _ (zAllA hl 7)
  show sn140 [ρ 0, ρ 1, ρ 2, ρ 3, ρ 4, ρ 5, ρ 6, ρ 7, ρ 8, ρ 9, ρ 10, ρ 11, ρ 12] (γ 0) 0 0 (γ 11)
  refine Eq.symm ?_
  show fn140 [] (γ 0) = _
  unfold fn140
  refine zLE m0 (zLE m1 (zLE m3 (zLE m5 (zLE m6 (zIP w_0 (zLE c1.symm (zLE (show fn104 [9 * ρ 1, 4, ρ 3, 0, 0] (γ 1) = (0, 0, γ 2) from l0.symm) ?_)))))))
  refine zLV (γ 2) rfl (zLE c3.symm (zLE (show fn114 [] (γ 3) = (0, ρ 14, γ 4) from l1.symm) (zLV (γ 4) rfl (zIP w_1 (zLV (ρ 14) rfl (zLE m14 (zLE (show fn105 [ρ 14] (γ 4) = (0, 1, γ 5) from l2.symm) ?_)))))))
  refine zLV (γ 5) rfl (zIP zQ1_ (zLE (show fn115 [] (γ 5) = (0, 1, γ 6) from l3.symm) (zLV (γ 6) rfl (zIP zQ1_ (zLE m18 (zLE (show fn122 [ρ 17] (γ 6) = (0, ρ 18, γ 7) from l4.symm) (zLV (γ 7) rfl ?_)))))))
  refine zLV (ρ 18) rfl (zLE c8.symm (zIP w_2 (zIP w_3 (zLE (show fn114 [] (γ 8) = (0, ρ 19, γ 9) from l5.symm) (zLV (γ 9) rfl (zIP w_4 (zLV (ρ 19) rfl ?_)))))))
  refine zLE m19 (zLE (show fn106 [ρ 19] (γ 9) = (0, 0, γ 10) from l6.symm) (zLV (γ 10) rfl (zIN zQ0_ (zLE (show fn109 [ρ 20] (γ 10) = (0, 0, γ 11) from l7.symm) (zLV (γ 11) rfl ?_)))))
  rfl
theorem vn140_5 {S : Nat → zSpc} (hS104 : zIm S 104 sn104) (hS105 : zIm S 105 sn105) (hS106 : zIm S 106 sn106) (hS109 : zIm S 109 sn109) (hS114 : zIm S 114 sn114) (hS115 : zIm S 115 sn115) (hS120 : zIm S 120 sn120) (hS122 : zIm S 122 sn122) {a : List Int} {g : rHp} : ∀ (ρ : Nat → Int) (γ : Nat → rHp), zO 13 S a g q140_5 ρ γ → zGl (fun _ _ _ => True) (sn140 a g) q140_5 ρ γ := by
  intro ρ γ h
  obtain ⟨ha, hg, hr, hf, hm, hc, hl⟩ := h
  have ha : a = [ρ 0, ρ 1, ρ 2, ρ 3, ρ 4, ρ 5, ρ 6, ρ 7, ρ 8, ρ 9, ρ 10, ρ 11, ρ 12] := ha
  subst ha
  subst hg
  have r6 : (0 : Int) ≤ ρ 6 ∧ ρ 6 ≤ 0 := zRnA hr 6
  have r14 : (97 : Int) ≤ ρ 14 ∧ ρ 14 ≤ 122 := zRnA hr 14
  have r18 : (2 : Int) ≤ ρ 18 ∧ ρ 18 ≤ 4 := zRnA hr 18
  have r19 : (65 : Int) ≤ ρ 19 ∧ ρ 19 ≤ 90 := zRnA hr 19
  obtain ⟨w_0, w_1, w_2, w_3, w_4⟩ : (ρ 6 = 0) ∧ ((0 : Int) ≤ ρ 14) ∧ (ρ 18 ≠ 0) ∧ (ρ 18 ≠ 1) ∧ ((0 : Int) ≤ ρ 19) := ⟨by omega, by omega, by omega, by omega, by omega⟩
  have m0 : γ 0 1 0 10 = ρ 0 := zAllA hm 0
  have m1 : γ 0 40 0 (ρ 0) = ρ 1 := zAllA hm 1
  have m3 : γ 0 2 0 6 = ρ 3 := zAllA hm 3
  have m5 : γ 0 10 (9 * ρ 1) 5 = ρ 5 := zAllA hm 5
  have m6 : γ 0 10 (9 * ρ 1) 12 = ρ 6 := zAllA hm 6
  have m14 : γ 4 2 0 6 = ρ 15 := zAllA hm 14
  have m18 : γ 6 2 0 8 = ρ 17 := zAllA hm 18
  have m19 : γ 9 2 0 6 = ρ 20 := zAllA hm 19
  have c1 : γ 1 = rUp (γ 0) 10 (9 * ρ 1) 13 (ρ 5) := And.right (zChA hc 10)
  have c3 : γ 3 = rUp (γ 2) 2 0 6 (ρ 3 + 1) := And.right (zChA hc 8)
  have c8 : γ 8 = rUp (γ 7) 10 (9 * ρ 1) 12 (ρ 18) := And.right (zChA hc 3)
  have l0 : sn104 [9 * ρ 1, 4, ρ 3, 0, 0, ρ 5] (γ 1) 0 0 (γ 2) := hS104 _ _ _ _ _ (zAllA hl 0)
  have l1 : sn114 [ρ 3 + 1, ρ 4] (γ 3) 0 (ρ 14) (γ 4) := hS114 _ _ _ _ _ (zAllA hl 1)
  have l2 : sn105 [ρ 14] (γ 4) 0 1 (γ 5) := hS105 _ _ _ _ _ (zAllA hl 2)
  have l3 : sn115 [ρ 15, ρ 4, ρ 8, ρ 9] (γ 5) 0 1 (γ 6) := hS115 _ _ _ _ _ (zAllA hl 3)
  have l4 : sn122 [ρ 17] (γ 6) 0 (ρ 18) (γ 7) := hS122 _ _ _ _ _ (zAllA hl 4)
  have l5 : sn114 [ρ 16, ρ 4] (γ 8) 0 (ρ 19) (γ 9) := hS114 _ _ _ _ _ (zAllA hl 5)
  have l6 : sn106 [ρ 19] (γ 9) 0 1 (γ 10) := hS106 _ _ _ _ _ (zAllA hl 6)
  have l7 : sn115 [ρ 20, ρ 4, ρ 8, ρ 15] (γ 10) 0 0 (γ 11) := hS115 _ _ _ _ _ (zAllA hl 7)
  show sn140 [ρ 0, ρ 1, ρ 2, ρ 3, ρ 4, ρ 5, ρ 6, ρ 7, ρ 8, ρ 9, ρ 10, ρ 11, ρ 12] (γ 0) 0 0 (γ 11)
  refine Eq.symm ?_
  show fn140 [] (γ 0) = _
  unfold fn140
  refine zLE m0 (zLE m1 (zLE m3 (zLE m5 (zLE m6 (zIP w_0 (zLE c1.symm (zLE (show fn104 [9 * ρ 1, 4, ρ 3, 0, 0] (γ 1) = (0, 0, γ 2) from l0.symm) ?_)))))))
  refine zLV (γ 2) rfl (zLE c3.symm (zLE (show fn114 [] (γ 3) = (0, ρ 14, γ 4) from l1.symm) (zLV (γ 4) rfl (zIP w_1 (zLV (ρ 14) rfl (zLE m14 (zLE (show fn105 [ρ 14] (γ 4) = (0, 1, γ 5) from l2.symm) ?_)))))))
  refine zLV (γ 5) rfl (zIP zQ1_ (zLE (show fn115 [] (γ 5) = (0, 1, γ 6) from l3.symm) (zLV (γ 6) rfl (zIP zQ1_ (zLE m18 (zLE (show fn122 [ρ 17] (γ 6) = (0, ρ 18, γ 7) from l4.symm) (zLV (γ 7) rfl ?_)))))))
  refine zLV (ρ 18) rfl (zLE c8.symm (zIP w_2 (zIP w_3 (zLE (show fn114 [] (γ 8) = (0, ρ 19, γ 9) from l5.symm) (zLV (γ 9) rfl (zIP w_4 (zLV (ρ 19) rfl ?_)))))))
  refine zLE m19 (zLE (show fn106 [ρ 19] (γ 9) = (0, 1, γ 10) from l6.symm) (zLV (γ 10) rfl (zIP zQ1_ (zLE (show fn115 [] (γ 10) = (0, 0, γ 11) from l7.symm) (zLV (γ 11) rfl (zIN zQ0_ ?_))))))
  rfl
theorem vn140_6 {S : Nat → zSpc} (hS104 : zIm S 104 sn104) (hS105 : zIm S 105 sn105) (hS106 : zIm S 106 sn106) (hS109 : zIm S 109 sn109) (hS114 : zIm S 114 sn114) (hS115 : zIm S 115 sn115) (hS120 : zIm S 120 sn120) (hS122 : zIm S 122 sn122) {a : List Int} {g : rHp} : ∀ (ρ : Nat → Int) (γ : Nat → rHp), zO 13 S a g q140_6 ρ γ → zGl (fun _ _ _ => True) (sn140 a g) q140_6 ρ γ := by
  intro ρ γ h
  obtain ⟨ha, hg, hr, hf, hm, hc, hl⟩ := h
  have ha : a = [ρ 0, ρ 1, ρ 2, ρ 3, ρ 4, ρ 5, ρ 6, ρ 7, ρ 8, ρ 9, ρ 10, ρ 11, ρ 12] := ha
  subst ha
  subst hg
  have r6 : (0 : Int) ≤ ρ 6 ∧ ρ 6 ≤ 0 := zRnA hr 6
  have r14 : (97 : Int) ≤ ρ 14 ∧ ρ 14 ≤ 122 := zRnA hr 14
  have r18 : (2 : Int) ≤ ρ 18 ∧ ρ 18 ≤ 4 := zRnA hr 18
  have r19 : (65 : Int) ≤ ρ 19 ∧ ρ 19 ≤ 90 := zRnA hr 19
  have r23 : (0 : Int) ≤ ρ 23 ∧ ρ 23 ≤ 7 := zRnA hr 23
  obtain ⟨w_0, w_1, w_2, w_3, w_4, w_5⟩ : (ρ 6 = 0) ∧ ((0 : Int) ≤ ρ 14) ∧ (ρ 18 ≠ 0) ∧ (ρ 18 ≠ 1) ∧ ((0 : Int) ≤ ρ 19) ∧ (ρ 23 ≥ 0) := ⟨by omega, by omega, by omega, by omega, by omega, by omega⟩
  have m0 : γ 0 1 0 10 = ρ 0 := zAllA hm 0
  have m1 : γ 0 40 0 (ρ 0) = ρ 1 := zAllA hm 1
  have m3 : γ 0 2 0 6 = ρ 3 := zAllA hm 3
  have m5 : γ 0 10 (9 * ρ 1) 5 = ρ 5 := zAllA hm 5
  have m6 : γ 0 10 (9 * ρ 1) 12 = ρ 6 := zAllA hm 6
  have m14 : γ 4 2 0 6 = ρ 15 := zAllA hm 14
  have m18 : γ 6 2 0 8 = ρ 17 := zAllA hm 18
  have m19 : γ 9 2 0 6 = ρ 20 := zAllA hm 19
  have m23 : γ 11 2 0 8 = ρ 22 := zAllA hm 23
  have c1 : γ 1 = rUp (γ 0) 10 (9 * ρ 1) 13 (ρ 5) := And.right (zChA hc 13)
  have c3 : γ 3 = rUp (γ 2) 2 0 6 (ρ 3 + 1) := And.right (zChA hc 11)
  have c8 : γ 8 = rUp (γ 7) 10 (9 * ρ 1) 12 (ρ 18) := And.right (zChA hc 6)
  have c12 : γ 12 = rUp (γ 11) 10 (9 * ρ 1) 15 (ρ 20) := And.right (zChA hc 2)
  have c14 : γ 14 = rUp (γ 13) 10 (9 * ρ 1) 14 (ρ 23) := And.right (zChA hc 0)
  have l0 : sn104 [9 * ρ 1, 4, ρ 3, 0, 0, ρ 5] (γ 1) 0 0 (γ 2) := hS104 _ _ _ _ _ (zAllA hl 0)
  have l1 : sn114 [ρ 3 + 1, ρ 4] (γ 3) 0 (ρ 14) (γ 4) := hS114 _ _ _ _ _ (zAllA hl 1)
  have l2 : sn105 [ρ 14] (γ 4) 0 1 (γ 5) := hS105 _ _ _ _ _ (zAllA hl 2)
  have l3 : sn115 [ρ 15, ρ 4, ρ 8, ρ 9] (γ 5) 0 1 (γ 6) := hS115 _ _ _ _ _ (zAllA hl 3)
  have l4 : sn122 [ρ 17] (γ 6) 0 (ρ 18) (γ 7) := hS122 _ _ _ _ _ (zAllA hl 4)
  have l5 : sn114 [ρ 16, ρ 4] (γ 8) 0 (ρ 19) (γ 9) := hS114 _ _ _ _ _ (zAllA hl 5)
  have l6 : sn106 [ρ 19] (γ 9) 0 1 (γ 10) := hS106 _ _ _ _ _ (zAllA hl 6)
  have l7 : sn115 [ρ 20, ρ 4, ρ 8, ρ 15] (γ 10) 0 1 (γ 11) := hS115 _ _ _ _ _ (zAllA hl 7)
  have l8 : sn120 [ρ 22, ρ 10] (γ 12) 0 (ρ 23) (γ 13) := hS120 _ _ _ _ _ (zAllA hl 8)
  show sn140 [ρ 0, ρ 1, ρ 2, ρ 3, ρ 4, ρ 5, ρ 6, ρ 7, ρ 8, ρ 9, ρ 10, ρ 11, ρ 12] (γ 0) 0 1 (γ 14)
  refine Eq.symm ?_
  show fn140 [] (γ 0) = _
  unfold fn140
  refine zLE m0 (zLE m1 (zLE m3 (zLE m5 (zLE m6 (zIP w_0 (zLE c1.symm (zLE (show fn104 [9 * ρ 1, 4, ρ 3, 0, 0] (γ 1) = (0, 0, γ 2) from l0.symm) ?_)))))))
  refine zLV (γ 2) rfl (zLE c3.symm (zLE (show fn114 [] (γ 3) = (0, ρ 14, γ 4) from l1.symm) (zLV (γ 4) rfl (zIP w_1 (zLV (ρ 14) rfl (zLE m14 (zLE (show fn105 [ρ 14] (γ 4) = (0, 1, γ 5) from l2.symm) ?_)))))))
  refine zLV (γ 5) rfl (zIP zQ1_ (zLE (show fn115 [] (γ 5) = (0, 1, γ 6) from l3.symm) (zLV (γ 6) rfl (zIP zQ1_ (zLE m18 (zLE (show fn122 [ρ 17] (γ 6) = (0, ρ 18, γ 7) from l4.symm) (zLV (γ 7) rfl ?_)))))))
  refine zLV (ρ 18) rfl (zLE c8.symm (zIP w_2 (zIP w_3 (zLE (show fn114 [] (γ 8) = (0, ρ 19, γ 9) from l5.symm) (zLV (γ 9) rfl (zIP w_4 (zLV (ρ 19) rfl ?_)))))))
  refine zLE m19 (zLE (show fn106 [ρ 19] (γ 9) = (0, 1, γ 10) from l6.symm) (zLV (γ 10) rfl (zIP zQ1_ (zLE (show fn115 [] (γ 10) = (0, 1, γ 11) from l7.symm) (zLV (γ 11) rfl (zIP zQ1_ (zLE c12.symm ?_)))))))
  refine zLE m23 (zLE (show fn120 [ρ 22] (γ 12) = (0, ρ 23, γ 13) from l8.symm) (zLV (γ 13) rfl (zLV (ρ 23) rfl (zLE c14.symm (zIP w_5 ?_)))))
  rfl
theorem vn140_7 {S : Nat → zSpc} (hS104 : zIm S 104 sn104) (hS105 : zIm S 105 sn105) (hS106 : zIm S 106 sn106) (hS109 : zIm S 109 sn109) (hS114 : zIm S 114 sn114) (hS115 : zIm S 115 sn115) (hS120 : zIm S 120 sn120) (hS122 : zIm S 122 sn122) {a : List Int} {g : rHp} : ∀ (ρ : Nat → Int) (γ : Nat → rHp), zO 13 S a g q140_7 ρ γ → zGl (fun _ _ _ => True) (sn140 a g) q140_7 ρ γ := by
  intro ρ γ h
  obtain ⟨ha, hg, hr, hf, hm, hc, hl⟩ := h
  have ha : a = [ρ 0, ρ 1, ρ 2, ρ 3, ρ 4, ρ 5, ρ 6, ρ 7, ρ 8, ρ 9, ρ 10, ρ 11, ρ 12] := ha
  subst ha
  subst hg
  have r6 : (0 : Int) ≤ ρ 6 ∧ ρ 6 ≤ 0 := zRnA hr 6
  have r14 : (97 : Int) ≤ ρ 14 ∧ ρ 14 ≤ 122 := zRnA hr 14
  have r18 : (2 : Int) ≤ ρ 18 ∧ ρ 18 ≤ 4 := zRnA hr 18
  have r19 : (65 : Int) ≤ ρ 19 ∧ ρ 19 ≤ 90 := zRnA hr 19
  have r23 : ((-1) : Int) ≤ ρ 23 ∧ ρ 23 ≤ (-1) := zRnA hr 23
  obtain ⟨w_0, w_1, w_2, w_3, w_4, w_5⟩ : (ρ 6 = 0) ∧ ((0 : Int) ≤ ρ 14) ∧ (ρ 18 ≠ 0) ∧ (ρ 18 ≠ 1) ∧ ((0 : Int) ≤ ρ 19) ∧ (¬ (ρ 23 ≥ 0)) := ⟨by omega, by omega, by omega, by omega, by omega, by omega⟩
  have m0 : γ 0 1 0 10 = ρ 0 := zAllA hm 0
  have m1 : γ 0 40 0 (ρ 0) = ρ 1 := zAllA hm 1
  have m3 : γ 0 2 0 6 = ρ 3 := zAllA hm 3
  have m5 : γ 0 10 (9 * ρ 1) 5 = ρ 5 := zAllA hm 5
  have m6 : γ 0 10 (9 * ρ 1) 12 = ρ 6 := zAllA hm 6
  have m14 : γ 4 2 0 6 = ρ 15 := zAllA hm 14
  have m18 : γ 6 2 0 8 = ρ 17 := zAllA hm 18
  have m19 : γ 9 2 0 6 = ρ 20 := zAllA hm 19
  have m23 : γ 11 2 0 8 = ρ 22 := zAllA hm 23
  have c1 : γ 1 = rUp (γ 0) 10 (9 * ρ 1) 13 (ρ 5) := And.right (zChA hc 14)
  have c3 : γ 3 = rUp (γ 2) 2 0 6 (ρ 3 + 1) := And.right (zChA hc 12)
  have c8 : γ 8 = rUp (γ 7) 10 (9 * ρ 1) 12 (ρ 18) := And.right (zChA hc 7)
  have c12 : γ 12 = rUp (γ 11) 10 (9 * ρ 1) 15 (ρ 20) := And.right (zChA hc 3)
  have c14 : γ 14 = rUp (γ 13) 10 (9 * ρ 1) 14 (ρ 23) := And.right (zChA hc 1)
  have l0 : sn104 [9 * ρ 1, 4, ρ 3, 0, 0, ρ 5] (γ 1) 0 0 (γ 2) := hS104 _ _ _ _ _ (zAllA hl 0)
  have l1 : sn114 [ρ 3 + 1, ρ 4] (γ 3) 0 (ρ 14) (γ 4) := hS114 _ _ _ _ _ (zAllA hl 1)
  have l2 : sn105 [ρ 14] (γ 4) 0 1 (γ 5) := hS105 _ _ _ _ _ (zAllA hl 2)
  have l3 : sn115 [ρ 15, ρ 4, ρ 8, ρ 9] (γ 5) 0 1 (γ 6) := hS115 _ _ _ _ _ (zAllA hl 3)
  have l4 : sn122 [ρ 17] (γ 6) 0 (ρ 18) (γ 7) := hS122 _ _ _ _ _ (zAllA hl 4)
  have l5 : sn114 [ρ 16, ρ 4] (γ 8) 0 (ρ 19) (γ 9) := hS114 _ _ _ _ _ (zAllA hl 5)
  have l6 : sn106 [ρ 19] (γ 9) 0 1 (γ 10) := hS106 _ _ _ _ _ (zAllA hl 6)
  have l7 : sn115 [ρ 20, ρ 4, ρ 8, ρ 15] (γ 10) 0 1 (γ 11) := hS115 _ _ _ _ _ (zAllA hl 7)
  have l8 : sn120 [ρ 22, ρ 10] (γ 12) 0 (ρ 23) (γ 13) := hS120 _ _ _ _ _ (zAllA hl 8)
  have l9 : sn109 [ρ 20, ρ 8] (γ 14) 0 0 (γ 15) := hS109 _ _ _ _ _ (zAllA hl 9)
  show sn140 [ρ 0, ρ 1, ρ 2, ρ 3, ρ 4, ρ 5, ρ 6, ρ 7, ρ 8, ρ 9, ρ 10, ρ 11, ρ 12] (γ 0) 0 0 (γ 15)
  refine Eq.symm ?_
  show fn140 [] (γ 0) = _
  unfold fn140
  refine zLE m0 (zLE m1 (zLE m3 (zLE m5 (zLE m6 (zIP w_0 (zLE c1.symm (zLE (show fn104 [9 * ρ 1, 4, ρ 3, 0, 0] (γ 1) = (0, 0, γ 2) from l0.symm) ?_)))))))
  refine zLV (γ 2) rfl (zLE c3.symm (zLE (show fn114 [] (γ 3) = (0, ρ 14, γ 4) from l1.symm) (zLV (γ 4) rfl (zIP w_1 (zLV (ρ 14) rfl (zLE m14 (zLE (show fn105 [ρ 14] (γ 4) = (0, 1, γ 5) from l2.symm) ?_)))))))
  refine zLV (γ 5) rfl (zIP zQ1_ (zLE (show fn115 [] (γ 5) = (0, 1, γ 6) from l3.symm) (zLV (γ 6) rfl (zIP zQ1_ (zLE m18 (zLE (show fn122 [ρ 17] (γ 6) = (0, ρ 18, γ 7) from l4.symm) (zLV (γ 7) rfl ?_)))))))
  refine zLV (ρ 18) rfl (zLE c8.symm (zIP w_2 (zIP w_3 (zLE (show fn114 [] (γ 8) = (0, ρ 19, γ 9) from l5.symm) (zLV (γ 9) rfl (zIP w_4 (zLV (ρ 19) rfl ?_)))))))
  refine zLE m19 (zLE (show fn106 [ρ 19] (γ 9) = (0, 1, γ 10) from l6.symm) (zLV (γ 10) rfl (zIP zQ1_ (zLE (show fn115 [] (γ 10) = (0, 1, γ 11) from l7.symm) (zLV (γ 11) rfl (zIP zQ1_ (zLE c12.symm ?_)))))))
  refine zLE m23 (zLE (show fn120 [ρ 22] (γ 12) = (0, ρ 23, γ 13) from l8.symm) (zLV (γ 13) rfl (zLV (ρ 23) rfl (zLE c14.symm (zIN w_5 (zLE (show fn109 [ρ 20] (γ 14) = (0, 0, γ 15) from l9.symm) (zLV (γ 15) rfl ?_)))))))
  rfl
theorem vn140_8 {S : Nat → zSpc} (hS104 : zIm S 104 sn104) (hS105 : zIm S 105 sn105) (hS106 : zIm S 106 sn106) (hS109 : zIm S 109 sn109) (hS114 : zIm S 114 sn114) (hS115 : zIm S 115 sn115) (hS120 : zIm S 120 sn120) (hS122 : zIm S 122 sn122) {a : List Int} {g : rHp} : ∀ (ρ : Nat → Int) (γ : Nat → rHp), zO 13 S a g q140_8 ρ γ → zGl (fun _ _ _ => True) (sn140 a g) q140_8 ρ γ := by
  intro ρ γ h
  obtain ⟨ha, hg, hr, hf, hm, hc, hl⟩ := h
  have ha : a = [ρ 0, ρ 1, ρ 2, ρ 3, ρ 4, ρ 5, ρ 6, ρ 7, ρ 8, ρ 9, ρ 10, ρ 11, ρ 12] := ha
  subst ha
  subst hg
  have r6 : (0 : Int) ≤ ρ 6 ∧ ρ 6 ≤ 0 := zRnA hr 6
  have r14 : (97 : Int) ≤ ρ 14 ∧ ρ 14 ≤ 122 := zRnA hr 14
  have r18 : (1 : Int) ≤ ρ 18 ∧ ρ 18 ≤ 1 := zRnA hr 18
  obtain ⟨w_0, w_1, w_2, w_3⟩ : (ρ 6 = 0) ∧ ((0 : Int) ≤ ρ 14) ∧ (ρ 18 ≠ 0) ∧ (¬ (ρ 18 ≠ 1)) := ⟨by omega, by omega, by omega, by omega⟩
  have m0 : γ 0 1 0 10 = ρ 0 := zAllA hm 0
  have m1 : γ 0 40 0 (ρ 0) = ρ 1 := zAllA hm 1
  have m3 : γ 0 2 0 6 = ρ 3 := zAllA hm 3
  have m5 : γ 0 10 (9 * ρ 1) 5 = ρ 5 := zAllA hm 5
  have m6 : γ 0 10 (9 * ρ 1) 12 = ρ 6 := zAllA hm 6
  have m14 : γ 4 2 0 6 = ρ 15 := zAllA hm 14
  have m18 : γ 6 2 0 8 = ρ 17 := zAllA hm 18
  have c1 : γ 1 = rUp (γ 0) 10 (9 * ρ 1) 13 (ρ 5) := And.right (zChA hc 7)
  have c3 : γ 3 = rUp (γ 2) 2 0 6 (ρ 3 + 1) := And.right (zChA hc 5)
  have c8 : γ 8 = rUp (γ 7) 10 (9 * ρ 1) 12 (ρ 18) := And.right (zChA hc 0)
  have l0 : sn104 [9 * ρ 1, 4, ρ 3, 0, 0, ρ 5] (γ 1) 0 0 (γ 2) := hS104 _ _ _ _ _ (zAllA hl 0)
  have l1 : sn114 [ρ 3 + 1, ρ 4] (γ 3) 0 (ρ 14) (γ 4) := hS114 _ _ _ _ _ (zAllA hl 1)
  have l2 : sn105 [ρ 14] (γ 4) 0 1 (γ 5) := hS105 _ _ _ _ _ (zAllA hl 2)
  have l3 : sn115 [ρ 15, ρ 4, ρ 8, ρ 9] (γ 5) 0 1 (γ 6) := hS115 _ _ _ _ _ (zAllA hl 3)
  have l4 : sn122 [ρ 17] (γ 6) 0 (ρ 18) (γ 7) := hS122 _ _ _ _ _ (zAllA hl 4)
  show sn140 [ρ 0, ρ 1, ρ 2, ρ 3, ρ 4, ρ 5, ρ 6, ρ 7, ρ 8, ρ 9, ρ 10, ρ 11, ρ 12] (γ 0) 0 1 (γ 8)
  refine Eq.symm ?_
  show fn140 [] (γ 0) = _
  unfold fn140
  refine zLE m0 (zLE m1 (zLE m3 (zLE m5 (zLE m6 (zIP w_0 (zLE c1.symm (zLE (show fn104 [9 * ρ 1, 4, ρ 3, 0, 0] (γ 1) = (0, 0, γ 2) from l0.symm) ?_)))))))
  refine zLV (γ 2) rfl (zLE c3.symm (zLE (show fn114 [] (γ 3) = (0, ρ 14, γ 4) from l1.symm) (zLV (γ 4) rfl (zIP w_1 (zLV (ρ 14) rfl (zLE m14 (zLE (show fn105 [ρ 14] (γ 4) = (0, 1, γ 5) from l2.symm) ?_)))))))
  refine zLV (γ 5) rfl (zIP zQ1_ (zLE (show fn115 [] (γ 5) = (0, 1, γ 6) from l3.symm) (zLV (γ 6) rfl (zIP zQ1_ (zLE m18 (zLE (show fn122 [ρ 17] (γ 6) = (0, ρ 18, γ 7) from l4.symm) (zLV (γ 7) rfl ?_)))))))
  refine zLV (ρ 18) rfl (zLE c8.symm (zIP w_2 (zIN w_3 ?_)))
  rfl
theorem vn140_9 {S : Nat → zSpc} (hS104 : zIm S 104 sn104) (hS105 : zIm S 105 sn105) (hS106 : zIm S 106 sn106) (hS109 : zIm S 109 sn109) (hS114 : zIm S 114 sn114) (hS115 : zIm S 115 sn115) (hS120 : zIm S 120 sn120) (hS122 : zIm S 122 sn122) {a : List Int} {g : rHp} : ∀ (ρ : Nat → Int) (γ : Nat → rHp), zO 13 S a g q140_9 ρ γ → zGl (fun _ _ _ => True) (sn140 a g) q140_9 ρ γ := by
  intro ρ γ h
  obtain ⟨ha, hg, hr, hf, hm, hc, hl⟩ := h
  have ha : a = [ρ 0, ρ 1, ρ 2, ρ 3, ρ 4, ρ 5, ρ 6, ρ 7, ρ 8, ρ 9, ρ 10, ρ 11, ρ 12] := ha
  subst ha
  subst hg
  have r6 : (0 : Int) ≤ ρ 6 ∧ ρ 6 ≤ 0 := zRnA hr 6
  have r14 : (97 : Int) ≤ ρ 14 ∧ ρ 14 ≤ 122 := zRnA hr 14
  have r18 : (0 : Int) ≤ ρ 18 ∧ ρ 18 ≤ 0 := zRnA hr 18
  obtain ⟨w_0, w_1, w_2⟩ : (ρ 6 = 0) ∧ ((0 : Int) ≤ ρ 14) ∧ (¬ (ρ 18 ≠ 0)) := ⟨by omega, by omega, by omega⟩
  have m0 : γ 0 1 0 10 = ρ 0 := zAllA hm 0
  have m1 : γ 0 40 0 (ρ 0) = ρ 1 := zAllA hm 1
  have m3 : γ 0 2 0 6 = ρ 3 := zAllA hm 3
  have m5 : γ 0 10 (9 * ρ 1) 5 = ρ 5 := zAllA hm 5
  have m6 : γ 0 10 (9 * ρ 1) 12 = ρ 6 := zAllA hm 6
  have m14 : γ 4 2 0 6 = ρ 15 := zAllA hm 14
  have m18 : γ 6 2 0 8 = ρ 17 := zAllA hm 18
  have c1 : γ 1 = rUp (γ 0) 10 (9 * ρ 1) 13 (ρ 5) := And.right (zChA hc 8)
  have c3 : γ 3 = rUp (γ 2) 2 0 6 (ρ 3 + 1) := And.right (zChA hc 6)
  have c8 : γ 8 = rUp (γ 7) 10 (9 * ρ 1) 12 (ρ 18) := And.right (zChA hc 1)
  have l0 : sn104 [9 * ρ 1, 4, ρ 3, 0, 0, ρ 5] (γ 1) 0 0 (γ 2) := hS104 _ _ _ _ _ (zAllA hl 0)
  have l1 : sn114 [ρ 3 + 1, ρ 4] (γ 3) 0 (ρ 14) (γ 4) := hS114 _ _ _ _ _ (zAllA hl 1)
  have l2 : sn105 [ρ 14] (γ 4) 0 1 (γ 5) := hS105 _ _ _ _ _ (zAllA hl 2)
  have l3 : sn115 [ρ 15, ρ 4, ρ 8, ρ 9] (γ 5) 0 1 (γ 6) := hS115 _ _ _ _ _ (zAllA hl 3)
  have l4 : sn122 [ρ 17] (γ 6) 0 (ρ 18) (γ 7) := hS122 _ _ _ _ _ (zAllA hl 4)
  have l5 : sn109 [ρ 15, ρ 8] (γ 8) 0 0 (γ 9) := hS109 _ _ _ _ _ (zAllA hl 5)
  show sn140 [ρ 0, ρ 1, ρ 2, ρ 3, ρ 4, ρ 5, ρ 6, ρ 7, ρ 8, ρ 9, ρ 10, ρ 11, ρ 12] (γ 0) 0 0 (γ 9)
  refine Eq.symm ?_
  show fn140 [] (γ 0) = _
  unfold fn140
  refine zLE m0 (zLE m1 (zLE m3 (zLE m5 (zLE m6 (zIP w_0 (zLE c1.symm (zLE (show fn104 [9 * ρ 1, 4, ρ 3, 0, 0] (γ 1) = (0, 0, γ 2) from l0.symm) ?_)))))))
  refine zLV (γ 2) rfl (zLE c3.symm (zLE (show fn114 [] (γ 3) = (0, ρ 14, γ 4) from l1.symm) (zLV (γ 4) rfl (zIP w_1 (zLV (ρ 14) rfl (zLE m14 (zLE (show fn105 [ρ 14] (γ 4) = (0, 1, γ 5) from l2.symm) ?_)))))))
  refine zLV (γ 5) rfl (zIP zQ1_ (zLE (show fn115 [] (γ 5) = (0, 1, γ 6) from l3.symm) (zLV (γ 6) rfl (zIP zQ1_ (zLE m18 (zLE (show fn122 [ρ 17] (γ 6) = (0, ρ 18, γ 7) from l4.symm) (zLV (γ 7) rfl ?_)))))))
  refine zLV (ρ 18) rfl (zLE c8.symm (zIN w_2 (zLE (show fn109 [ρ 15] (γ 8) = (0, 0, γ 9) from l5.symm) (zLV (γ 9) rfl ?_))))
  rfl
theorem vn140_10 {S : Nat → zSpc} (hS104 : zIm S 104 sn104) (hS105 : zIm S 105 sn105) (hS106 : zIm S 106 sn106) (hS109 : zIm S 109 sn109) (hS114 : zIm S 114 sn114) (hS115 : zIm S 115 sn115) (hS120 : zIm S 120 sn120) (hS122 : zIm S 122 sn122) {a : List Int} {g : rHp} : ∀ (ρ : Nat → Int) (γ : Nat → rHp), zO 13 S a g q140_10 ρ γ → zGl (fun _ _ _ => True) (sn140 a g) q140_10 ρ γ := by
  intro ρ γ h
  obtain ⟨ha, hg, hr, hf, hm, hc, hl⟩ := h
  have ha : a = [ρ 0, ρ 1, ρ 2, ρ 3, ρ 4, ρ 5, ρ 6, ρ 7, ρ 8, ρ 9, ρ 10, ρ 11, ρ 12] := ha
  subst ha
  subst hg
  have r6 : (1 : Int) ≤ ρ 6 ∧ ρ 6 ≤ 4 := zRnA hr 6
  have w_0 : ¬ (ρ 6 = 0) := by omega
  have m0 : γ 0 1 0 10 = ρ 0 := zAllA hm 0
  have m1 : γ 0 40 0 (ρ 0) = ρ 1 := zAllA hm 1
  have m3 : γ 0 2 0 6 = ρ 3 := zAllA hm 3
  have m5 : γ 0 10 (9 * ρ 1) 5 = ρ 5 := zAllA hm 5
  have m6 : γ 0 10 (9 * ρ 1) 12 = ρ 6 := zAllA hm 6
  have l0 : sn109 [ρ 3, ρ 8] (γ 0) 0 0 (γ 1) := hS109 _ _ _ _ _ (zAllA hl 0)
  show sn140 [ρ 0, ρ 1, ρ 2, ρ 3, ρ 4, ρ 5, ρ 6, ρ 7, ρ 8, ρ 9, ρ 10, ρ 11, ρ 12] (γ 0) 0 0 (γ 1)
  refine Eq.symm ?_
  show fn140 [] (γ 0) = _
  unfold fn140
  refine zLE m0 (zLE m1 (zLE m3 (zLE m5 (zLE m6 (zIN w_0 (zLE (show fn109 [ρ 3] (γ 0) = (0, 0, γ 1) from l0.symm) (zLV (γ 1) rfl ?_)))))))
  rfl
theorem yn140 {S : Nat → zSpc} (hS104 : zIm S 104 sn104) (hS105 : zIm S 105 sn105) (hS106 : zIm S 106 sn106) (hS109 : zIm S 109 sn109) (hS114 : zIm S 114 sn114) (hS115 : zIm S 115 sn115) (hS120 : zIm S 120 sn120) (hS122 : zIm S 122 sn122) : ∀ x g o v gz, zSem uW uT w140_.2.2.2.1 w140_.2.2.1.1.length S q140 (fun i => q140a.getD i []) (zNA a140_) x g o v gz → sn140 x g o v gz := by
  intro a g o v gz h
  exact zSem_all (l0 := q140) (las := q140a) (S := S) (J := (fun _ _ _ => True)) (P := sn140 a g) (fun _ => (show zAll _ [q140_0, q140_1, q140_2, q140_3, q140_4, q140_5, q140_6, q140_7, q140_8, q140_9, q140_10] from (zAll_c (vn140_0 hS104 hS105 hS106 hS109 hS114 hS115 hS120 hS122) (zAll_c (vn140_1 hS104 hS105 hS106 hS109 hS114 hS115 hS120 hS122) (zAll_c (vn140_2 hS104 hS105 hS106 hS109 hS114 hS115 hS120 hS122) (zAll_c (vn140_3 hS104 hS105 hS106 hS109 hS114 hS115 hS120 hS122) (zAll_c (vn140_4 hS104 hS105 hS106 hS109 hS114 hS115 hS120 hS122) (zAll_c (vn140_5 hS104 hS105 hS106 hS109 hS114 hS115 hS120 hS122) (zAll_c (vn140_6 hS104 hS105 hS106 hS109 hS114 hS115 hS120 hS122) (zAll_c (vn140_7 hS104 hS105 hS106 hS109 hS114 hS115 hS120 hS122) (zAll_c (vn140_8 hS104 hS105 hS106 hS109 hS114 hS115 hS120 hS122) (zAll_c (vn140_9 hS104 hS105 hS106 hS109 hS114 hS115 hS120 hS122) (zAll_c (vn140_10 hS104 hS105 hS106 hS109 hS114 hS115 hS120 hS122) zAll_n))))))))))))) (fun _ => (show zAllI _ 0 [] from trivial)) h
theorem vn141_0 {S : Nat → zSpc} (hS106 : zIm S 106 sn106) (hS114 : zIm S 114 sn114) (hS115 : zIm S 115 sn115) (hS136 : zIm S 136 sn136) (hS137 : zIm S 137 sn137) (hS140 : zIm S 140 sn140) {a : List Int} {g : rHp} : ∀ (ρ : Nat → Int) (γ : Nat → rHp), zO 17 S a g q141_0 ρ γ → zGl (fun _ _ _ => True) (sn141 a g) q141_0 ρ γ := by
  intro ρ γ h
  obtain ⟨ha, hg, hr, hf, hm, hc, hl⟩ := h
  have ha : a = [ρ 0, ρ 1, ρ 2, ρ 3, ρ 4, ρ 5, ρ 6, ρ 7, ρ 8, ρ 9, ρ 10, ρ 11, ρ 12, ρ 13, ρ 14, ρ 15, ρ 16] := ha
  subst ha
  subst hg
  have m0 : γ 0 1 0 10 = ρ 0 := zAllA hm 0
  have m1 : γ 0 40 0 (ρ 0) = ρ 1 := zAllA hm 1
  have l0 : sn114 [ρ 3, ρ 4] (γ 0) 0 (-1) (γ 1) := hS114 _ _ _ _ _ (zAllA hl 0)
  have l1 : sn106 [(-1)] (γ 1) 0 0 (γ 2) := hS106 _ _ _ _ _ (zAllA hl 1)
  have l2 : sn136 [9 * ρ 1, ρ 17, ρ 4, ρ 5, ρ 9, ρ 11, ρ 14] (γ 2) 0 0 (γ 3) := hS136 _ _ _ _ _ (zAllA hl 2)
  show sn141 [ρ 0, ρ 1, ρ 2, ρ 3, ρ 4, ρ 5, ρ 6, ρ 7, ρ 8, ρ 9, ρ 10, ρ 11, ρ 12, ρ 13, ρ 14, ρ 15, ρ 16] (γ 0) 0 0 (γ 3)
  refine Eq.symm ?_
  show fn141 [] (γ 0) = _
  unfold fn141
  refine zLE m0 (zLE m1 (zLE (show fn114 [] (γ 0) = (0, (-1), γ 1) from l0.symm) (zLV (γ 1) rfl (zIN zQ2_ (zLE (show fn106 [(-1)] (γ 1) = (0, 0, γ 2) from l1.symm) (zLV (γ 2) rfl (zLE (show fn136 [9 * ρ 1] (γ 2) = (0, 0, γ 3) from l2.symm) ?_)))))))
  refine zLV (γ 3) rfl ?_
  rfl
theorem vn141_1 {S : Nat → zSpc} (hS106 : zIm S 106 sn106) (hS114 : zIm S 114 sn114) (hS115 : zIm S 115 sn115) (hS136 : zIm S 136 sn136) (hS137 : zIm S 137 sn137) (hS140 : zIm S 140 sn140) {a : List Int} {g : rHp} : ∀ (ρ : Nat → Int) (γ : Nat → rHp), zO 17 S a g q141_1 ρ γ → zGl (fun _ _ _ => True) (sn141 a g) q141_1 ρ γ := by
  intro ρ γ h
  obtain ⟨ha, hg, hr, hf, hm, hc, hl⟩ := h
  have ha : a = [ρ 0, ρ 1, ρ 2, ρ 3, ρ 4, ρ 5, ρ 6, ρ 7, ρ 8, ρ 9, ρ 10, ρ 11, ρ 12, ρ 13, ρ 14, ρ 15, ρ 16] := ha
  subst ha
  subst hg
  have r17 : (0 : Int) ≤ ρ 17 ∧ ρ 17 ≤ 255 := zRnA hr 17
  have w_0 : (0 : Int) ≤ ρ 17 := by omega
  have m0 : γ 0 1 0 10 = ρ 0 := zAllA hm 0
  have m1 : γ 0 40 0 (ρ 0) = ρ 1 := zAllA hm 1
  have l0 : sn114 [ρ 3, ρ 4] (γ 0) 0 (ρ 17) (γ 1) := hS114 _ _ _ _ _ (zAllA hl 0)
  have l1 : sn106 [ρ 17] (γ 1) 0 0 (γ 2) := hS106 _ _ _ _ _ (zAllA hl 1)
  have l2 : ρ 17 ≠ 35 := zAllA hl 2
  have l3 : ρ 17 ≠ 95 := zAllA hl 3
  have l4 : sn136 [9 * ρ 1, ρ 18, ρ 4, ρ 5, ρ 9, ρ 11, ρ 14] (γ 2) 0 0 (γ 3) := hS136 _ _ _ _ _ (zAllA hl 4)
  have wl_0 : ρ 17 ≠ 35 := by omega
  show sn141 [ρ 0, ρ 1, ρ 2, ρ 3, ρ 4, ρ 5, ρ 6, ρ 7, ρ 8, ρ 9, ρ 10, ρ 11, ρ 12, ρ 13, ρ 14, ρ 15, ρ 16] (γ 0) 0 0 (γ 3)
  refine Eq.symm ?_
  show fn141 [] (γ 0) = _
  unfold fn141
  refine zLE m0 (zLE m1 (zLE (show fn114 [] (γ 0) = (0, ρ 17, γ 1) from l0.symm) (zLV (γ 1) rfl (zIP w_0 (zLV (ρ 17) rfl (zLE (show fn106 [ρ 17] (γ 1) = (0, 0, γ 2) from l1.symm) (zLV (γ 2) rfl ?_)))))))
  refine zIN zQ0_ (zIP wl_0 (zLE (show fn136 [9 * ρ 1] (γ 2) = (0, 0, γ 3) from l4.symm) (zLV (γ 3) rfl (zIN zQ0_ ?_))))
  rfl
theorem vn141_2 {S : Nat → zSpc} (hS106 : zIm S 106 sn106) (hS114 : zIm S 114 sn114) (hS115 : zIm S 115 sn115) (hS136 : zIm S 136 sn136) (hS137 : zIm S 137 sn137) (hS140 : zIm S 140 sn140) {a : List Int} {g : rHp} : ∀ (ρ : Nat → Int) (γ : Nat → rHp), zO 17 S a g q141_2 ρ γ → zGl (fun _ _ _ => True) (sn141 a g) q141_2 ρ γ := by
  intro ρ γ h
  obtain ⟨ha, hg, hr, hf, hm, hc, hl⟩ := h
  have ha : a = [ρ 0, ρ 1, ρ 2, ρ 3, ρ 4, ρ 5, ρ 6, ρ 7, ρ 8, ρ 9, ρ 10, ρ 11, ρ 12, ρ 13, ρ 14, ρ 15, ρ 16] := ha
  subst ha
  subst hg
  have r17 : (0 : Int) ≤ ρ 17 ∧ ρ 17 ≤ 255 := zRnA hr 17
  have w_0 : (0 : Int) ≤ ρ 17 := by omega
  have m0 : γ 0 1 0 10 = ρ 0 := zAllA hm 0
  have m1 : γ 0 40 0 (ρ 0) = ρ 1 := zAllA hm 1
  have l0 : sn114 [ρ 3, ρ 4] (γ 0) 0 (ρ 17) (γ 1) := hS114 _ _ _ _ _ (zAllA hl 0)
  have l1 : sn106 [ρ 17] (γ 1) 0 0 (γ 2) := hS106 _ _ _ _ _ (zAllA hl 1)
  have l2 : ρ 17 ≠ 35 := zAllA hl 2
  have l3 : ρ 17 ≠ 95 := zAllA hl 3
  have l4 : sn136 [9 * ρ 1, ρ 18, ρ 4, ρ 5, ρ 9, ρ 11, ρ 14] (γ 2) 0 1 (γ 3) := hS136 _ _ _ _ _ (zAllA hl 4)
  have wl_0 : ρ 17 ≠ 35 := by omega
  show sn141 [ρ 0, ρ 1, ρ 2, ρ 3, ρ 4, ρ 5, ρ 6, ρ 7, ρ 8, ρ 9, ρ 10, ρ 11, ρ 12, ρ 13, ρ 14, ρ 15, ρ 16] (γ 0) 0 1 (γ 3)
  refine Eq.symm ?_
  show fn141 [] (γ 0) = _
  unfold fn141
  refine zLE m0 (zLE m1 (zLE (show fn114 [] (γ 0) = (0, ρ 17, γ 1) from l0.symm) (zLV (γ 1) rfl (zIP w_0 (zLV (ρ 17) rfl (zLE (show fn106 [ρ 17] (γ 1) = (0, 0, γ 2) from l1.symm) (zLV (γ 2) rfl ?_)))))))
  refine zIN zQ0_ (zIP wl_0 (zLE (show fn136 [9 * ρ 1] (γ 2) = (0, 1, γ 3) from l4.symm) (zLV (γ 3) rfl (zIP zQ1_ ?_))))
  rfl
theorem vn141_3 {S : Nat → zSpc} (hS106 : zIm S 106 sn106) (hS114 : zIm S 114 sn114) (hS115 : zIm S 115 sn115) (hS136 : zIm S 136 sn136) (hS137 : zIm S 137 sn137) (hS140 : zIm S 140 sn140) {a : List Int} {g : rHp} : ∀ (ρ : Nat → Int) (γ : Nat → rHp), zO 17 S a g q141_3 ρ γ → zGl (fun _ _ _ => True) (sn141 a g) q141_3 ρ γ := by
  intro ρ γ h
  obtain ⟨ha, hg, hr, hf, hm, hc, hl⟩ := h
  have ha : a = [ρ 0, ρ 1, ρ 2, ρ 3, ρ 4, ρ 5, ρ 6, ρ 7, ρ 8, ρ 9, ρ 10, ρ 11, ρ 12, ρ 13, ρ 14, ρ 15, ρ 16] := ha
  subst ha
  subst hg
  have r17 : (95 : Int) ≤ ρ 17 ∧ ρ 17 ≤ 95 := zRnA hr 17
  obtain ⟨w_0, w_1⟩ : ((0 : Int) ≤ ρ 17) ∧ (ρ 17 ≠ 35) := ⟨by omega, by omega⟩
  have m0 : γ 0 1 0 10 = ρ 0 := zAllA hm 0
  have m1 : γ 0 40 0 (ρ 0) = ρ 1 := zAllA hm 1
  have l0 : sn114 [ρ 3, ρ 4] (γ 0) 0 (ρ 17) (γ 1) := hS114 _ _ _ _ _ (zAllA hl 0)
  have l1 : sn106 [ρ 17] (γ 1) 0 0 (γ 2) := hS106 _ _ _ _ _ (zAllA hl 1)
  have l2 : ρ 17 ≠ 35 := zAllA hl 2
  have l3 : sn136 [9 * ρ 1, ρ 18, ρ 4, ρ 5, ρ 9, ρ 11, ρ 14] (γ 2) 0 0 (γ 3) := hS136 _ _ _ _ _ (zAllA hl 3)
  show sn141 [ρ 0, ρ 1, ρ 2, ρ 3, ρ 4, ρ 5, ρ 6, ρ 7, ρ 8, ρ 9, ρ 10, ρ 11, ρ 12, ρ 13, ρ 14, ρ 15, ρ 16] (γ 0) 0 0 (γ 3)
  refine Eq.symm ?_
  show fn141 [] (γ 0) = _
  unfold fn141
  refine zLE m0 (zLE m1 (zLE (show fn114 [] (γ 0) = (0, ρ 17, γ 1) from l0.symm) (zLV (γ 1) rfl (zIP w_0 (zLV (ρ 17) rfl (zLE (show fn106 [ρ 17] (γ 1) = (0, 0, γ 2) from l1.symm) (zLV (γ 2) rfl ?_)))))))
  refine zIN zQ0_ (zIP w_1 (zLE (show fn136 [9 * ρ 1] (γ 2) = (0, 0, γ 3) from l3.symm) (zLV (γ 3) rfl (zIN zQ0_ ?_))))
  rfl
theorem vn141_4 {S : Nat → zSpc} (hS106 : zIm S 106 sn106) (hS114 : zIm S 114 sn114) (hS115 : zIm S 115 sn115) (hS136 : zIm S 136 sn136) (hS137 : zIm S 137 sn137) (hS140 : zIm S 140 sn140) {a : List Int} {g : rHp} : ∀ (ρ : Nat → Int) (γ : Nat → rHp), zO 17 S a g q141_4 ρ γ → zGl (fun _ _ _ => True) (sn141 a g) q141_4 ρ γ := by
  intro ρ γ h
  obtain ⟨ha, hg, hr, hf, hm, hc, hl⟩ := h
  have ha : a = [ρ 0, ρ 1, ρ 2, ρ 3, ρ 4, ρ 5, ρ 6, ρ 7, ρ 8, ρ 9, ρ 10, ρ 11, ρ 12, ρ 13, ρ 14, ρ 15, ρ 16] := ha
  subst ha
  subst hg
  have r17 : (95 : Int) ≤ ρ 17 ∧ ρ 17 ≤ 95 := zRnA hr 17
  obtain ⟨w_0, w_1⟩ : ((0 : Int) ≤ ρ 17) ∧ (ρ 17 ≠ 35) := ⟨by omega, by omega⟩
  have m0 : γ 0 1 0 10 = ρ 0 := zAllA hm 0
  have m1 : γ 0 40 0 (ρ 0) = ρ 1 := zAllA hm 1
  have l0 : sn114 [ρ 3, ρ 4] (γ 0) 0 (ρ 17) (γ 1) := hS114 _ _ _ _ _ (zAllA hl 0)
  have l1 : sn106 [ρ 17] (γ 1) 0 0 (γ 2) := hS106 _ _ _ _ _ (zAllA hl 1)
  have l2 : ρ 17 ≠ 35 := zAllA hl 2
  have l3 : sn136 [9 * ρ 1, ρ 18, ρ 4, ρ 5, ρ 9, ρ 11, ρ 14] (γ 2) 0 1 (γ 3) := hS136 _ _ _ _ _ (zAllA hl 3)
  show sn141 [ρ 0, ρ 1, ρ 2, ρ 3, ρ 4, ρ 5, ρ 6, ρ 7, ρ 8, ρ 9, ρ 10, ρ 11, ρ 12, ρ 13, ρ 14, ρ 15, ρ 16] (γ 0) 0 1 (γ 3)
  refine Eq.symm ?_
  show fn141 [] (γ 0) = _
  unfold fn141
  refine zLE m0 (zLE m1 (zLE (show fn114 [] (γ 0) = (0, ρ 17, γ 1) from l0.symm) (zLV (γ 1) rfl (zIP w_0 (zLV (ρ 17) rfl (zLE (show fn106 [ρ 17] (γ 1) = (0, 0, γ 2) from l1.symm) (zLV (γ 2) rfl ?_)))))))
  refine zIN zQ0_ (zIP w_1 (zLE (show fn136 [9 * ρ 1] (γ 2) = (0, 1, γ 3) from l3.symm) (zLV (γ 3) rfl (zIP zQ1_ ?_))))
  rfl
theorem vn141_5 {S : Nat → zSpc} (hS106 : zIm S 106 sn106) (hS114 : zIm S 114 sn114) (hS115 : zIm S 115 sn115) (hS136 : zIm S 136 sn136) (hS137 : zIm S 137 sn137) (hS140 : zIm S 140 sn140) {a : List Int} {g : rHp} : ∀ (ρ : Nat → Int) (γ : Nat → rHp), zO 17 S a g q141_5 ρ γ → zGl (fun _ _ _ => True) (sn141 a g) q141_5 ρ γ := by
  intro ρ γ h
  obtain ⟨ha, hg, hr, hf, hm, hc, hl⟩ := h
  have ha : a = [ρ 0, ρ 1, ρ 2, ρ 3, ρ 4, ρ 5, ρ 6, ρ 7, ρ 8, ρ 9, ρ 10, ρ 11, ρ 12, ρ 13, ρ 14, ρ 15, ρ 16] := ha
  subst ha
  subst hg
  have r17 : (35 : Int) ≤ ρ 17 ∧ ρ 17 ≤ 35 := zRnA hr 17
  obtain ⟨w_0, w_1⟩ : ((0 : Int) ≤ ρ 17) ∧ (¬ (ρ 17 ≠ 35)) := ⟨by omega, by omega⟩
  have m0 : γ 0 1 0 10 = ρ 0 := zAllA hm 0
  have m1 : γ 0 40 0 (ρ 0) = ρ 1 := zAllA hm 1
  have l0 : sn114 [ρ 3, ρ 4] (γ 0) 0 (ρ 17) (γ 1) := hS114 _ _ _ _ _ (zAllA hl 0)
  have l1 : sn106 [ρ 17] (γ 1) 0 0 (γ 2) := hS106 _ _ _ _ _ (zAllA hl 1)
  have l2 : sn140 [ρ 0, ρ 1, ρ 2, ρ 18, ρ 4, ρ 5, ρ 6, ρ 7, ρ 9, ρ 11, ρ 12, ρ 15, ρ 16] (γ 2) 0 0 (γ 3) := hS140 _ _ _ _ _ (zAllA hl 2)
  show sn141 [ρ 0, ρ 1, ρ 2, ρ 3, ρ 4, ρ 5, ρ 6, ρ 7, ρ 8, ρ 9, ρ 10, ρ 11, ρ 12, ρ 13, ρ 14, ρ 15, ρ 16] (γ 0) 0 0 (γ 3)
  refine Eq.symm ?_
  show fn141 [] (γ 0) = _
  unfold fn141
  refine zLE m0 (zLE m1 (zLE (show fn114 [] (γ 0) = (0, ρ 17, γ 1) from l0.symm) (zLV (γ 1) rfl (zIP w_0 (zLV (ρ 17) rfl (zLE (show fn106 [ρ 17] (γ 1) = (0, 0, γ 2) from l1.symm) (zLV (γ 2) rfl ?_)))))))
  refine zIN zQ0_ (zIN w_1 (zLE (show fn140 [] (γ 2) = (0, 0, γ 3) from l2.symm) (zLV (γ 3) rfl (zIN zQ0_ ?_))))
  rfl
theorem vn141_6 {S : Nat → zSpc} (hS106 : zIm S 106 sn106) (hS114 : zIm S 114 sn114) (hS115 : zIm S 115 sn115) (hS136 : zIm S 136 sn136) (hS137 : zIm S 137 sn137) (hS140 : zIm S 140 sn140) {a : List Int} {g : rHp} : ∀ (ρ : Nat → Int) (γ : Nat → rHp), zO 17 S a g q141_6 ρ γ → zGl (fun _ _ _ => True) (sn141 a g) q141_6 ρ γ := by
  intro ρ γ h
  obtain ⟨ha, hg, hr, hf, hm, hc, hl⟩ := h
  have ha : a = [ρ 0, ρ 1, ρ 2, ρ 3, ρ 4, ρ 5, ρ 6, ρ 7, ρ 8, ρ 9, ρ 10, ρ 11, ρ 12, ρ 13, ρ 14, ρ 15, ρ 16] := ha
  subst ha
  subst hg
  have r17 : (35 : Int) ≤ ρ 17 ∧ ρ 17 ≤ 35 := zRnA hr 17
  obtain ⟨w_0, w_1⟩ : ((0 : Int) ≤ ρ 17) ∧ (¬ (ρ 17 ≠ 35)) := ⟨by omega, by omega⟩
  have m0 : γ 0 1 0 10 = ρ 0 := zAllA hm 0
  have m1 : γ 0 40 0 (ρ 0) = ρ 1 := zAllA hm 1
  have l0 : sn114 [ρ 3, ρ 4] (γ 0) 0 (ρ 17) (γ 1) := hS114 _ _ _ _ _ (zAllA hl 0)
  have l1 : sn106 [ρ 17] (γ 1) 0 0 (γ 2) := hS106 _ _ _ _ _ (zAllA hl 1)
  have l2 : sn140 [ρ 0, ρ 1, ρ 2, ρ 18, ρ 4, ρ 5, ρ 6, ρ 7, ρ 9, ρ 11, ρ 12, ρ 15, ρ 16] (γ 2) 0 1 (γ 3) := hS140 _ _ _ _ _ (zAllA hl 2)
  show sn141 [ρ 0, ρ 1, ρ 2, ρ 3, ρ 4, ρ 5, ρ 6, ρ 7, ρ 8, ρ 9, ρ 10, ρ 11, ρ 12, ρ 13, ρ 14, ρ 15, ρ 16] (γ 0) 0 1 (γ 3)
  refine Eq.symm ?_
  show fn141 [] (γ 0) = _
  unfold fn141
  refine zLE m0 (zLE m1 (zLE (show fn114 [] (γ 0) = (0, ρ 17, γ 1) from l0.symm) (zLV (γ 1) rfl (zIP w_0 (zLV (ρ 17) rfl (zLE (show fn106 [ρ 17] (γ 1) = (0, 0, γ 2) from l1.symm) (zLV (γ 2) rfl ?_)))))))
  refine zIN zQ0_ (zIN w_1 (zLE (show fn140 [] (γ 2) = (0, 1, γ 3) from l2.symm) (zLV (γ 3) rfl (zIP zQ1_ ?_))))
  rfl
theorem vn141_7 {S : Nat → zSpc} (hS106 : zIm S 106 sn106) (hS114 : zIm S 114 sn114) (hS115 : zIm S 115 sn115) (hS136 : zIm S 136 sn136) (hS137 : zIm S 137 sn137) (hS140 : zIm S 140 sn140) {a : List Int} {g : rHp} : ∀ (ρ : Nat → Int) (γ : Nat → rHp), zO 17 S a g q141_7 ρ γ → zGl (fun _ _ _ => True) (sn141 a g) q141_7 ρ γ := by
  intro ρ γ h
  obtain ⟨ha, hg, hr, hf, hm, hc, hl⟩ := h
  have ha : a = [ρ 0, ρ 1, ρ 2, ρ 3, ρ 4, ρ 5, ρ 6, ρ 7, ρ 8, ρ 9, ρ 10, ρ 11, ρ 12, ρ 13, ρ 14, ρ 15, ρ 16] := ha
  subst ha
  subst hg
  have r17 : (65 : Int) ≤ ρ 17 ∧ ρ 17 ≤ 90 := zRnA hr 17
  have w_0 : (0 : Int) ≤ ρ 17 := by omega
  have m0 : γ 0 1 0 10 = ρ 0 := zAllA hm 0
  have m1 : γ 0 40 0 (ρ 0) = ρ 1 := zAllA hm 1
  have l0 : sn114 [ρ 3, ρ 4] (γ 0) 0 (ρ 17) (γ 1) := hS114 _ _ _ _ _ (zAllA hl 0)
  have l1 : sn106 [ρ 17] (γ 1) 0 1 (γ 2) := hS106 _ _ _ _ _ (zAllA hl 1)
  have l2 : sn115 [ρ 18, ρ 4, ρ 9, ρ 11] (γ 2) 0 0 (γ 3) := hS115 _ _ _ _ _ (zAllA hl 2)
  show sn141 [ρ 0, ρ 1, ρ 2, ρ 3, ρ 4, ρ 5, ρ 6, ρ 7, ρ 8, ρ 9, ρ 10, ρ 11, ρ 12, ρ 13, ρ 14, ρ 15, ρ 16] (γ 0) 0 0 (γ 3)
  refine Eq.symm ?_
  show fn141 [] (γ 0) = _
  unfold fn141
  refine zLE m0 (zLE m1 (zLE (show fn114 [] (γ 0) = (0, ρ 17, γ 1) from l0.symm) (zLV (γ 1) rfl (zIP w_0 (zLV (ρ 17) rfl (zLE (show fn106 [ρ 17] (γ 1) = (0, 1, γ 2) from l1.symm) (zLV (γ 2) rfl ?_)))))))
  refine zIP zQ1_ (zLE (show fn115 [] (γ 2) = (0, 0, γ 3) from l2.symm) (zLV (γ 3) rfl (zIN zQ0_ ?_)))
  rfl
theorem vn141_8 {S : Nat → zSpc} (hS106 : zIm S 106 sn106) (hS114 : zIm S 114 sn114) (hS115 : zIm S 115 sn115) (hS136 : zIm S 136 sn136) (hS137 : zIm S 137 sn137) (hS140 : zIm S 140 sn140) {a : List Int} {g : rHp} : ∀ (ρ : Nat → Int) (γ : Nat → rHp), zO 17 S a g q141_8 ρ γ → zGl (fun _ _ _ => True) (sn141 a g) q141_8 ρ γ := by
  intro ρ γ h
  obtain ⟨ha, hg, hr, hf, hm, hc, hl⟩ := h
  have ha : a = [ρ 0, ρ 1, ρ 2, ρ 3, ρ 4, ρ 5, ρ 6, ρ 7, ρ 8, ρ 9, ρ 10, ρ 11, ρ 12, ρ 13, ρ 14, ρ 15, ρ 16] := ha
  subst ha
  subst hg
  have r17 : (65 : Int) ≤ ρ 17 ∧ ρ 17 ≤ 90 := zRnA hr 17
  have w_0 : (0 : Int) ≤ ρ 17 := by omega
  have m0 : γ 0 1 0 10 = ρ 0 := zAllA hm 0
  have m1 : γ 0 40 0 (ρ 0) = ρ 1 := zAllA hm 1
  have l0 : sn114 [ρ 3, ρ 4] (γ 0) 0 (ρ 17) (γ 1) := hS114 _ _ _ _ _ (zAllA hl 0)
  have l1 : sn106 [ρ 17] (γ 1) 0 1 (γ 2) := hS106 _ _ _ _ _ (zAllA hl 1)
  have l2 : sn115 [ρ 18, ρ 4, ρ 9, ρ 11] (γ 2) 0 1 (γ 3) := hS115 _ _ _ _ _ (zAllA hl 2)
  have l3 : sn137 [9 * ρ 1, ρ 19, ρ 4, ρ 5, ρ 9, ρ 10, ρ 18, ρ 12, ρ 13, ρ 8] (γ 3) 0 0 (γ 4) := hS137 _ _ _ _ _ (zAllA hl 3)
  show sn141 [ρ 0, ρ 1, ρ 2, ρ 3, ρ 4, ρ 5, ρ 6, ρ 7, ρ 8, ρ 9, ρ 10, ρ 11, ρ 12, ρ 13, ρ 14, ρ 15, ρ 16] (γ 0) 0 0 (γ 4)
  refine Eq.symm ?_
  show fn141 [] (γ 0) = _
  unfold fn141
  refine zLE m0 (zLE m1 (zLE (show fn114 [] (γ 0) = (0, ρ 17, γ 1) from l0.symm) (zLV (γ 1) rfl (zIP w_0 (zLV (ρ 17) rfl (zLE (show fn106 [ρ 17] (γ 1) = (0, 1, γ 2) from l1.symm) (zLV (γ 2) rfl ?_)))))))
  refine zIP zQ1_ (zLE (show fn115 [] (γ 2) = (0, 1, γ 3) from l2.symm) (zLV (γ 3) rfl (zIP zQ1_ (zLE (show fn137 [9 * ρ 1] (γ 3) = (0, 0, γ 4) from l3.symm) (zLV (γ 4) rfl (zIN zQ0_ ?_))))))
  rfl
theorem vn141_9 {S : Nat → zSpc} (hS106 : zIm S 106 sn106) (hS114 : zIm S 114 sn114) (hS115 : zIm S 115 sn115) (hS136 : zIm S 136 sn136) (hS137 : zIm S 137 sn137) (hS140 : zIm S 140 sn140) {a : List Int} {g : rHp} : ∀ (ρ : Nat → Int) (γ : Nat → rHp), zO 17 S a g q141_9 ρ γ → zGl (fun _ _ _ => True) (sn141 a g) q141_9 ρ γ := by
  intro ρ γ h
  obtain ⟨ha, hg, hr, hf, hm, hc, hl⟩ := h
  have ha : a = [ρ 0, ρ 1, ρ 2, ρ 3, ρ 4, ρ 5, ρ 6, ρ 7, ρ 8, ρ 9, ρ 10, ρ 11, ρ 12, ρ 13, ρ 14, ρ 15, ρ 16] := ha
  subst ha
  subst hg
  have r17 : (65 : Int) ≤ ρ 17 ∧ ρ 17 ≤ 90 := zRnA hr 17
  have w_0 : (0 : Int) ≤ ρ 17 := by omega
  have m0 : γ 0 1 0 10 = ρ 0 := zAllA hm 0
  have m1 : γ 0 40 0 (ρ 0) = ρ 1 := zAllA hm 1
  have l0 : sn114 [ρ 3, ρ 4] (γ 0) 0 (ρ 17) (γ 1) := hS114 _ _ _ _ _ (zAllA hl 0)
  have l1 : sn106 [ρ 17] (γ 1) 0 1 (γ 2) := hS106 _ _ _ _ _ (zAllA hl 1)
  have l2 : sn115 [ρ 18, ρ 4, ρ 9, ρ 11] (γ 2) 0 1 (γ 3) := hS115 _ _ _ _ _ (zAllA hl 2)
  have l3 : sn137 [9 * ρ 1, ρ 19, ρ 4, ρ 5, ρ 9, ρ 10, ρ 18, ρ 12, ρ 13, ρ 8] (γ 3) 0 1 (γ 4) := hS137 _ _ _ _ _ (zAllA hl 3)
  show sn141 [ρ 0, ρ 1, ρ 2, ρ 3, ρ 4, ρ 5, ρ 6, ρ 7, ρ 8, ρ 9, ρ 10, ρ 11, ρ 12, ρ 13, ρ 14, ρ 15, ρ 16] (γ 0) 0 1 (γ 4)
  refine Eq.symm ?_
  show fn141 [] (γ 0) = _
  unfold fn141
  refine zLE m0 (zLE m1 (zLE (show fn114 [] (γ 0) = (0, ρ 17, γ 1) from l0.symm) (zLV (γ 1) rfl (zIP w_0 (zLV (ρ 17) rfl (zLE (show fn106 [ρ 17] (γ 1) = (0, 1, γ 2) from l1.symm) (zLV (γ 2) rfl ?_)))))))
  refine zIP zQ1_ (zLE (show fn115 [] (γ 2) = (0, 1, γ 3) from l2.symm) (zLV (γ 3) rfl (zIP zQ1_ (zLE (show fn137 [9 * ρ 1] (γ 3) = (0, 1, γ 4) from l3.symm) (zLV (γ 4) rfl (zIP zQ1_ ?_))))))
  rfl
theorem yn141 {S : Nat → zSpc} (hS106 : zIm S 106 sn106) (hS114 : zIm S 114 sn114) (hS115 : zIm S 115 sn115) (hS136 : zIm S 136 sn136) (hS137 : zIm S 137 sn137) (hS140 : zIm S 140 sn140) : ∀ x g o v gz, zSem uW uT w141_.2.2.2.1 w141_.2.2.1.1.length S q141 (fun i => q141a.getD i []) (zNA a141_) x g o v gz → sn141 x g o v gz := by
  intro a g o v gz h
  exact zSem_all (l0 := q141) (las := q141a) (S := S) (J := (fun _ _ _ => True)) (P := sn141 a g) (fun _ => (show zAll _ [q141_0, q141_1, q141_2, q141_3, q141_4, q141_5, q141_6, q141_7, q141_8, q141_9] from (zAll_c (vn141_0 hS106 hS114 hS115 hS136 hS137 hS140) (zAll_c (vn141_1 hS106 hS114 hS115 hS136 hS137 hS140) (zAll_c (vn141_2 hS106 hS114 hS115 hS136 hS137 hS140) (zAll_c (vn141_3 hS106 hS114 hS115 hS136 hS137 hS140) (zAll_c (vn141_4 hS106 hS114 hS115 hS136 hS137 hS140) (zAll_c (vn141_5 hS106 hS114 hS115 hS136 hS137 hS140) (zAll_c (vn141_6 hS106 hS114 hS115 hS136 hS137 hS140) (zAll_c (vn141_7 hS106 hS114 hS115 hS136 hS137 hS140) (zAll_c (vn141_8 hS106 hS114 hS115 hS136 hS137 hS140) (zAll_c (vn141_9 hS106 hS114 hS115 hS136 hS137 hS140) zAll_n)))))))))))) (fun _ => (show zAllI _ 0 [] from trivial)) h
theorem vn142_0 {S : Nat → zSpc} (hS104 : zIm S 104 sn104) (hS106 : zIm S 106 sn106) (hS114 : zIm S 114 sn114) (hS115 : zIm S 115 sn115) (hS136 : zIm S 136 sn136) (hS137 : zIm S 137 sn137) {a : List Int} {g : rHp} : ∀ (ρ : Nat → Int) (γ : Nat → rHp), zO 15 S a g q142_0 ρ γ → zGl (fun _ _ _ => True) (sn142 a g) q142_0 ρ γ := by
  intro ρ γ h
  obtain ⟨ha, hg, hr, hf, hm, hc, hl⟩ := h
  have ha : a = [ρ 0, ρ 1, ρ 2, ρ 3, ρ 4, ρ 5, ρ 6, ρ 7, ρ 8, ρ 9, ρ 10, ρ 11, ρ 12, ρ 13, ρ 14] := ha
  subst ha
  subst hg
  have m0 : γ 0 1 0 10 = ρ 0 := zAllA hm 0
  have m1 : γ 0 40 0 (ρ 0) = ρ 1 := zAllA hm 1
  have m2 : γ 0 9 (ρ 1) 2 = ρ 2 := zAllA hm 2
  have l0 : sn114 [ρ 3, ρ 4] (γ 0) 0 (-1) (γ 1) := hS114 _ _ _ _ _ (zAllA hl 0)
  have l1 : sn106 [(-1)] (γ 1) 0 0 (γ 2) := hS106 _ _ _ _ _ (zAllA hl 1)
  have l2 : sn136 [ρ 2 + 9 * ρ 1 + 1, ρ 15, ρ 4, ρ 5, ρ 9, ρ 11, ρ 14] (γ 2) 0 0 (γ 3) := hS136 _ _ _ _ _ (zAllA hl 2)
  show sn142 [ρ 0, ρ 1, ρ 2, ρ 3, ρ 4, ρ 5, ρ 6, ρ 7, ρ 8, ρ 9, ρ 10, ρ 11, ρ 12, ρ 13, ρ 14] (γ 0) 0 0 (γ 3)
  refine Eq.symm ?_
  show fn142 [] (γ 0) = _
  unfold fn142
  refine zLE m0 (zLE m1 (zLE m2 (zLE (show fn114 [] (γ 0) = (0, (-1), γ 1) from l0.symm) (zLV (γ 1) rfl (zIN zQ2_ (zLE (show fn106 [(-1)] (γ 1) = (0, 0, γ 2) from l1.symm) (zLV (γ 2) rfl ?_)))))))
  refine zLE (show fn136 [ρ 2 + 9 * ρ 1 + 1] (γ 2) = (0, 0, γ 3) from l2.symm) (zLV (γ 3) rfl ?_)
  rfl
theorem vn142_1 {S : Nat → zSpc} (hS104 : zIm S 104 sn104) (hS106 : zIm S 106 sn106) (hS114 : zIm S 114 sn114) (hS115 : zIm S 115 sn115) (hS136 : zIm S 136 sn136) (hS137 : zIm S 137 sn137) {a : List Int} {g : rHp} : ∀ (ρ : Nat → Int) (γ : Nat → rHp), zO 15 S a g q142_1 ρ γ → zGl (fun _ _ _ => True) (sn142 a g) q142_1 ρ γ := by
  intro ρ γ h
  obtain ⟨ha, hg, hr, hf, hm, hc, hl⟩ := h
  have ha : a = [ρ 0, ρ 1, ρ 2, ρ 3, ρ 4, ρ 5, ρ 6, ρ 7, ρ 8, ρ 9, ρ 10, ρ 11, ρ 12, ρ 13, ρ 14] := ha
  subst ha
  subst hg
  have r15 : (0 : Int) ≤ ρ 15 ∧ ρ 15 ≤ 255 := zRnA hr 15
  have w_0 : (0 : Int) ≤ ρ 15 := by omega
  have m0 : γ 0 1 0 10 = ρ 0 := zAllA hm 0
  have m1 : γ 0 40 0 (ρ 0) = ρ 1 := zAllA hm 1
  have m2 : γ 0 9 (ρ 1) 2 = ρ 2 := zAllA hm 2
  have m15 : γ 1 2 0 6 = ρ 16 := zAllA hm 15
  have l0 : sn114 [ρ 3, ρ 4] (γ 0) 0 (ρ 15) (γ 1) := hS114 _ _ _ _ _ (zAllA hl 0)
  have l1 : sn106 [ρ 15] (γ 1) 0 0 (γ 2) := hS106 _ _ _ _ _ (zAllA hl 1)
  have l2 : ρ 15 ≠ 35 := zAllA hl 2
  have l3 : ρ 15 ≠ 95 := zAllA hl 3
  have l4 : sn136 [ρ 2 + 9 * ρ 1 + 1, ρ 16, ρ 4, ρ 5, ρ 9, ρ 11, ρ 14] (γ 2) 0 0 (γ 3) := hS136 _ _ _ _ _ (zAllA hl 4)
  obtain ⟨wl_0, wl_1⟩ : (ρ 15 ≠ 35) ∧ (ρ 15 ≠ 95) := ⟨by omega, by omega⟩
  show sn142 [ρ 0, ρ 1, ρ 2, ρ 3, ρ 4, ρ 5, ρ 6, ρ 7, ρ 8, ρ 9, ρ 10, ρ 11, ρ 12, ρ 13, ρ 14] (γ 0) 0 0 (γ 3)
  refine Eq.symm ?_
  show fn142 [] (γ 0) = _
  unfold fn142
  refine zLE m0 (zLE m1 (zLE m2 (zLE (show fn114 [] (γ 0) = (0, ρ 15, γ 1) from l0.symm) (zLV (γ 1) rfl (zIP w_0 (zLV (ρ 15) rfl (zLE m15 ?_)))))))
  refine zLE (show fn106 [ρ 15] (γ 1) = (0, 0, γ 2) from l1.symm) (zLV (γ 2) rfl (zIN zQ0_ (zIP wl_0 (zIP wl_1 (zLE (show fn136 [ρ 2 + 9 * ρ 1 + 1] (γ 2) = (0, 0, γ 3) from l4.symm) (zLV (γ 3) rfl (zIN zQ0_ ?_)))))))
  rfl
theorem vn142_2 {S : Nat → zSpc} (hS104 : zIm S 104 sn104) (hS106 : zIm S 106 sn106) (hS114 : zIm S 114 sn114) (hS115 : zIm S 115 sn115) (hS136 : zIm S 136 sn136) (hS137 : zIm S 137 sn137) {a : List Int} {g : rHp} : ∀ (ρ : Nat → Int) (γ : Nat → rHp), zO 15 S a g q142_2 ρ γ → zGl (fun _ _ _ => True) (sn142 a g) q142_2 ρ γ := by
  intro ρ γ h
  obtain ⟨ha, hg, hr, hf, hm, hc, hl⟩ := h
  have ha : a = [ρ 0, ρ 1, ρ 2, ρ 3, ρ 4, ρ 5, ρ 6, ρ 7, ρ 8, ρ 9, ρ 10, ρ 11, ρ 12, ρ 13, ρ 14] := ha
  subst ha
  subst hg
  have r15 : (0 : Int) ≤ ρ 15 ∧ ρ 15 ≤ 255 := zRnA hr 15
  have w_0 : (0 : Int) ≤ ρ 15 := by omega
  have m0 : γ 0 1 0 10 = ρ 0 := zAllA hm 0
  have m1 : γ 0 40 0 (ρ 0) = ρ 1 := zAllA hm 1
  have m2 : γ 0 9 (ρ 1) 2 = ρ 2 := zAllA hm 2
  have m15 : γ 1 2 0 6 = ρ 16 := zAllA hm 15
  have l0 : sn114 [ρ 3, ρ 4] (γ 0) 0 (ρ 15) (γ 1) := hS114 _ _ _ _ _ (zAllA hl 0)
  have l1 : sn106 [ρ 15] (γ 1) 0 0 (γ 2) := hS106 _ _ _ _ _ (zAllA hl 1)
  have l2 : ρ 15 ≠ 35 := zAllA hl 2
  have l3 : ρ 15 ≠ 95 := zAllA hl 3
  have l4 : sn136 [ρ 2 + 9 * ρ 1 + 1, ρ 16, ρ 4, ρ 5, ρ 9, ρ 11, ρ 14] (γ 2) 0 1 (γ 3) := hS136 _ _ _ _ _ (zAllA hl 4)
  obtain ⟨wl_0, wl_1⟩ : (ρ 15 ≠ 35) ∧ (ρ 15 ≠ 95) := ⟨by omega, by omega⟩
  show sn142 [ρ 0, ρ 1, ρ 2, ρ 3, ρ 4, ρ 5, ρ 6, ρ 7, ρ 8, ρ 9, ρ 10, ρ 11, ρ 12, ρ 13, ρ 14] (γ 0) 0 1 (γ 3)
  refine Eq.symm ?_
  show fn142 [] (γ 0) = _
  unfold fn142
  refine zLE m0 (zLE m1 (zLE m2 (zLE (show fn114 [] (γ 0) = (0, ρ 15, γ 1) from l0.symm) (zLV (γ 1) rfl (zIP w_0 (zLV (ρ 15) rfl (zLE m15 ?_)))))))
  refine zLE (show fn106 [ρ 15] (γ 1) = (0, 0, γ 2) from l1.symm) (zLV (γ 2) rfl (zIN zQ0_ (zIP wl_0 (zIP wl_1 (zLE (show fn136 [ρ 2 + 9 * ρ 1 + 1] (γ 2) = (0, 1, γ 3) from l4.symm) (zLV (γ 3) rfl (zIP zQ1_ ?_)))))))
  rfl
theorem vn142_3 {S : Nat → zSpc} (hS104 : zIm S 104 sn104) (hS106 : zIm S 106 sn106) (hS114 : zIm S 114 sn114) (hS115 : zIm S 115 sn115) (hS136 : zIm S 136 sn136) (hS137 : zIm S 137 sn137) {a : List Int} {g : rHp} : ∀ (ρ : Nat → Int) (γ : Nat → rHp), zO 15 S a g q142_3 ρ γ → zGl (fun _ _ _ => True) (sn142 a g) q142_3 ρ γ := by
  intro ρ γ h
  obtain ⟨ha, hg, hr, hf, hm, hc, hl⟩ := h
  have ha : a = [ρ 0, ρ 1, ρ 2, ρ 3, ρ 4, ρ 5, ρ 6, ρ 7, ρ 8, ρ 9, ρ 10, ρ 11, ρ 12, ρ 13, ρ 14] := ha
  subst ha
  subst hg
  have r15 : (95 : Int) ≤ ρ 15 ∧ ρ 15 ≤ 95 := zRnA hr 15
  obtain ⟨w_0, w_1, w_2⟩ : ((0 : Int) ≤ ρ 15) ∧ (ρ 15 ≠ 35) ∧ (¬ (ρ 15 ≠ 95)) := ⟨by omega, by omega, by omega⟩
  have m0 : γ 0 1 0 10 = ρ 0 := zAllA hm 0
  have m1 : γ 0 40 0 (ρ 0) = ρ 1 := zAllA hm 1
  have m2 : γ 0 9 (ρ 1) 2 = ρ 2 := zAllA hm 2
  have m15 : γ 1 2 0 6 = ρ 16 := zAllA hm 15
  have c4 : γ 4 = rUp (γ 3) 2 0 6 (ρ 16 + 1) := And.right (zChA hc 0)
  have l0 : sn114 [ρ 3, ρ 4] (γ 0) 0 (ρ 15) (γ 1) := hS114 _ _ _ _ _ (zAllA hl 0)
  have l1 : sn106 [ρ 15] (γ 1) 0 0 (γ 2) := hS106 _ _ _ _ _ (zAllA hl 1)
  have l2 : ρ 15 ≠ 35 := zAllA hl 2
  have l3 : sn104 [ρ 2 + 9 * ρ 1 + 1, 3, ρ 16, 0, 0, ρ 5] (γ 2) 0 0 (γ 3) := hS104 _ _ _ _ _ (zAllA hl 3)
  show sn142 [ρ 0, ρ 1, ρ 2, ρ 3, ρ 4, ρ 5, ρ 6, ρ 7, ρ 8, ρ 9, ρ 10, ρ 11, ρ 12, ρ 13, ρ 14] (γ 0) 0 1 (γ 4)
  refine Eq.symm ?_
  show fn142 [] (γ 0) = _
  unfold fn142
  refine zLE m0 (zLE m1 (zLE m2 (zLE (show fn114 [] (γ 0) = (0, ρ 15, γ 1) from l0.symm) (zLV (γ 1) rfl (zIP w_0 (zLV (ρ 15) rfl (zLE m15 ?_)))))))
  refine zLE (show fn106 [ρ 15] (γ 1) = (0, 0, γ 2) from l1.symm) (zLV (γ 2) rfl (zIN zQ0_ (zIP w_1 (zIN w_2 (zLE (show fn104 [ρ 2 + 9 * ρ 1 + 1, 3, ρ 16, 0, 0] (γ 2) = (0, 0, γ 3) from l3.symm) (zLV (γ 3) rfl (zLE c4.symm ?_)))))))
  rfl
theorem vn142_4 {S : Nat → zSpc} (hS104 : zIm S 104 sn104) (hS106 : zIm S 106 sn106) (hS114 : zIm S 114 sn114) (hS115 : zIm S 115 sn115) (hS136 : zIm S 136 sn136) (hS137 : zIm S 137 sn137) {a : List Int} {g : rHp} : ∀ (ρ : Nat → Int) (γ : Nat → rHp), zO 15 S a g q142_4 ρ γ → zGl (fun _ _ _ => True) (sn142 a g) q142_4 ρ γ := by
  intro ρ γ h
  obtain ⟨ha, hg, hr, hf, hm, hc, hl⟩ := h
  have ha : a = [ρ 0, ρ 1, ρ 2, ρ 3, ρ 4, ρ 5, ρ 6, ρ 7, ρ 8, ρ 9, ρ 10, ρ 11, ρ 12, ρ 13, ρ 14] := ha
  subst ha
  subst hg
  have r15 : (35 : Int) ≤ ρ 15 ∧ ρ 15 ≤ 35 := zRnA hr 15
  obtain ⟨w_0, w_1⟩ : ((0 : Int) ≤ ρ 15) ∧ (¬ (ρ 15 ≠ 35)) := ⟨by omega, by omega⟩
  have m0 : γ 0 1 0 10 = ρ 0 := zAllA hm 0
  have m1 : γ 0 40 0 (ρ 0) = ρ 1 := zAllA hm 1
  have m2 : γ 0 9 (ρ 1) 2 = ρ 2 := zAllA hm 2
  have m15 : γ 1 2 0 6 = ρ 16 := zAllA hm 15
  have l0 : sn114 [ρ 3, ρ 4] (γ 0) 0 (ρ 15) (γ 1) := hS114 _ _ _ _ _ (zAllA hl 0)
  have l1 : sn106 [ρ 15] (γ 1) 0 0 (γ 2) := hS106 _ _ _ _ _ (zAllA hl 1)
  have l2 : sn136 [ρ 2 + 9 * ρ 1 + 1, ρ 16, ρ 4, ρ 5, ρ 9, ρ 11, ρ 14] (γ 2) 0 0 (γ 3) := hS136 _ _ _ _ _ (zAllA hl 2)
  show sn142 [ρ 0, ρ 1, ρ 2, ρ 3, ρ 4, ρ 5, ρ 6, ρ 7, ρ 8, ρ 9, ρ 10, ρ 11, ρ 12, ρ 13, ρ 14] (γ 0) 0 0 (γ 3)
  refine Eq.symm ?_
  show fn142 [] (γ 0) = _
  unfold fn142
  refine zLE m0 (zLE m1 (zLE m2 (zLE (show fn114 [] (γ 0) = (0, ρ 15, γ 1) from l0.symm) (zLV (γ 1) rfl (zIP w_0 (zLV (ρ 15) rfl (zLE m15 ?_)))))))
  refine zLE (show fn106 [ρ 15] (γ 1) = (0, 0, γ 2) from l1.symm) (zLV (γ 2) rfl (zIN zQ0_ (zIN w_1 (zLE (show fn136 [ρ 2 + 9 * ρ 1 + 1] (γ 2) = (0, 0, γ 3) from l2.symm) (zLV (γ 3) rfl (zIN zQ0_ ?_))))))
  rfl
theorem vn142_5 {S : Nat → zSpc} (hS104 : zIm S 104 sn104) (hS106 : zIm S 106 sn106) (hS114 : zIm S 114 sn114) (hS115 : zIm S 115 sn115) (hS136 : zIm S 136 sn136) (hS137 : zIm S 137 sn137) {a : List Int} {g : rHp} : ∀ (ρ : Nat → Int) (γ : Nat → rHp), zO 15 S a g q142_5 ρ γ → zGl (fun _ _ _ => True) (sn142 a g) q142_5 ρ γ := by
  intro ρ γ h
  obtain ⟨ha, hg, hr, hf, hm, hc, hl⟩ := h
  have ha : a = [ρ 0, ρ 1, ρ 2, ρ 3, ρ 4, ρ 5, ρ 6, ρ 7, ρ 8, ρ 9, ρ 10, ρ 11, ρ 12, ρ 13, ρ 14] := ha
  subst ha
  subst hg
  have r15 : (35 : Int) ≤ ρ 15 ∧ ρ 15 ≤ 35 := zRnA hr 15
  obtain ⟨w_0, w_1⟩ : ((0 : Int) ≤ ρ 15) ∧ (¬ (ρ 15 ≠ 35)) := ⟨by omega, by omega⟩
  have m0 : γ 0 1 0 10 = ρ 0 := zAllA hm 0
  have m1 : γ 0 40 0 (ρ 0) = ρ 1 := zAllA hm 1
  have m2 : γ 0 9 (ρ 1) 2 = ρ 2 := zAllA hm 2
  have m15 : γ 1 2 0 6 = ρ 16 := zAllA hm 15
  have l0 : sn114 [ρ 3, ρ 4] (γ 0) 0 (ρ 15) (γ 1) := hS114 _ _ _ _ _ (zAllA hl 0)
  have l1 : sn106 [ρ 15] (γ 1) 0 0 (γ 2) := hS106 _ _ _ _ _ (zAllA hl 1)
  have l2 : sn136 [ρ 2 + 9 * ρ 1 + 1, ρ 16, ρ 4, ρ 5, ρ 9, ρ 11, ρ 14] (γ 2) 0 1 (γ 3) := hS136 _ _ _ _ _ (zAllA hl 2)
  show sn142 [ρ 0, ρ 1, ρ 2, ρ 3, ρ 4, ρ 5, ρ 6, ρ 7, ρ 8, ρ 9, ρ 10, ρ 11, ρ 12, ρ 13, ρ 14] (γ 0) 0 1 (γ 3)
  refine Eq.symm ?_
  show fn142 [] (γ 0) = _
  unfold fn142
  refine zLE m0 (zLE m1 (zLE m2 (zLE (show fn114 [] (γ 0) = (0, ρ 15, γ 1) from l0.symm) (zLV (γ 1) rfl (zIP w_0 (zLV (ρ 15) rfl (zLE m15 ?_)))))))
  refine zLE (show fn106 [ρ 15] (γ 1) = (0, 0, γ 2) from l1.symm) (zLV (γ 2) rfl (zIN zQ0_ (zIN w_1 (zLE (show fn136 [ρ 2 + 9 * ρ 1 + 1] (γ 2) = (0, 1, γ 3) from l2.symm) (zLV (γ 3) rfl (zIP zQ1_ ?_))))))
  rfl
theorem vn142_6 {S : Nat → zSpc} (hS104 : zIm S 104 sn104) (hS106 : zIm S 106 sn106) (hS114 : zIm S 114 sn114) (hS115 : zIm S 115 sn115) (hS136 : zIm S 136 sn136) (hS137 : zIm S 137 sn137) {a : List Int} {g : rHp} : ∀ (ρ : Nat → Int) (γ : Nat → rHp), zO 15 S a g q142_6 ρ γ → zGl (fun _ _ _ => True) (sn142 a g) q142_6 ρ γ := by
  intro ρ γ h
  obtain ⟨ha, hg, hr, hf, hm, hc, hl⟩ := h
  have ha : a = [ρ 0, ρ 1, ρ 2, ρ 3, ρ 4, ρ 5, ρ 6, ρ 7, ρ 8, ρ 9, ρ 10, ρ 11, ρ 12, ρ 13, ρ 14] := ha
  subst ha
  subst hg
  have r15 : (65 : Int) ≤ ρ 15 ∧ ρ 15 ≤ 90 := zRnA hr 15
  have w_0 : (0 : Int) ≤ ρ 15 := by omega
  have m0 : γ 0 1 0 10 = ρ 0 := zAllA hm 0
  have m1 : γ 0 40 0 (ρ 0) = ρ 1 := zAllA hm 1
  have m2 : γ 0 9 (ρ 1) 2 = ρ 2 := zAllA hm 2
  have m15 : γ 1 2 0 6 = ρ 16 := zAllA hm 15
  have l0 : sn114 [ρ 3, ρ 4] (γ 0) 0 (ρ 15) (γ 1) := hS114 _ _ _ _ _ (zAllA hl 0)
  have l1 : sn106 [ρ 15] (γ 1) 0 1 (γ 2) := hS106 _ _ _ _ _ (zAllA hl 1)
  have l2 : sn115 [ρ 16, ρ 4, ρ 9, ρ 11] (γ 2) 0 0 (γ 3) := hS115 _ _ _ _ _ (zAllA hl 2)
  show sn142 [ρ 0, ρ 1, ρ 2, ρ 3, ρ 4, ρ 5, ρ 6, ρ 7, ρ 8, ρ 9, ρ 10, ρ 11, ρ 12, ρ 13, ρ 14] (γ 0) 0 0 (γ 3)
  refine Eq.symm ?_
  show fn142 [] (γ 0) = _
  unfold fn142
  refine zLE m0 (zLE m1 (zLE m2 (zLE (show fn114 [] (γ 0) = (0, ρ 15, γ 1) from l0.symm) (zLV (γ 1) rfl (zIP w_0 (zLV (ρ 15) rfl (zLE m15 ?_)))))))
  refine zLE (show fn106 [ρ 15] (γ 1) = (0, 1, γ 2) from l1.symm) (zLV (γ 2) rfl (zIP zQ1_ (zLE (show fn115 [] (γ 2) = (0, 0, γ 3) from l2.symm) (zLV (γ 3) rfl (zIN zQ0_ ?_)))))
  rfl
theorem vn142_7 {S : Nat → zSpc} (hS104 : zIm S 104 sn104) (hS106 : zIm S 106 sn106) (hS114 : zIm S 114 sn114) (hS115 : zIm S 115 sn115) (hS136 : zIm S 136 sn136) (hS137 : zIm S 137 sn137) {a : List Int} {g : rHp} : ∀ (ρ : Nat → Int) (γ : Nat → rHp), zO 15 S a g q142_7 ρ γ → zGl (fun _ _ _ => True) (sn142 a g) q142_7 ρ γ := by
  intro ρ γ h
  obtain ⟨ha, hg, hr, hf, hm, hc, hl⟩ := h
  have ha : a = [ρ 0, ρ 1, ρ 2, ρ 3, ρ 4, ρ 5, ρ 6, ρ 7, ρ 8, ρ 9, ρ 10, ρ 11, ρ 12, ρ 13, ρ 14] := ha
  subst ha
  subst hg
  have r15 : (65 : Int) ≤ ρ 15 ∧ ρ 15 ≤ 90 := zRnA hr 15
  have w_0 : (0 : Int) ≤ ρ 15 := by omega
  have m0 : γ 0 1 0 10 = ρ 0 := zAllA hm 0
  have m1 : γ 0 40 0 (ρ 0) = ρ 1 := zAllA hm 1
  have m2 : γ 0 9 (ρ 1) 2 = ρ 2 := zAllA hm 2
  have m15 : γ 1 2 0 6 = ρ 16 := zAllA hm 15
  have l0 : sn114 [ρ 3, ρ 4] (γ 0) 0 (ρ 15) (γ 1) := hS114 _ _ _ _ _ (zAllA hl 0)
  have l1 : sn106 [ρ 15] (γ 1) 0 1 (γ 2) := hS106 _ _ _ _ _ (zAllA hl 1)
  have l2 : sn115 [ρ 16, ρ 4, ρ 9, ρ 11] (γ 2) 0 1 (γ 3) := hS115 _ _ _ _ _ (zAllA hl 2)
  have l3 : sn137 [ρ 2 + 9 * ρ 1 + 1, ρ 17, ρ 4, ρ 5, ρ 9, ρ 10, ρ 16, ρ 12, ρ 13, ρ 6] (γ 3) 0 0 (γ 4) := hS137 _ _ _ _ _ (zAllA hl 3)
  show sn142 [ρ 0, ρ 1, ρ 2, ρ 3, ρ 4, ρ 5, ρ 6, ρ 7, ρ 8, ρ 9, ρ 10, ρ 11, ρ 12, ρ 13, ρ 14] (γ 0) 0 0 (γ 4)
  refine Eq.symm ?_
  show fn142 [] (γ 0) = _
  unfold fn142
  refine zLE m0 (zLE m1 (zLE m2 (zLE (show fn114 [] (γ 0) = (0, ρ 15, γ 1) from l0.symm) (zLV (γ 1) rfl (zIP w_0 (zLV (ρ 15) rfl (zLE m15 ?_)))))))
  refine zLE (show fn106 [ρ 15] (γ 1) = (0, 1, γ 2) from l1.symm) (zLV (γ 2) rfl (zIP zQ1_ (zLE (show fn115 [] (γ 2) = (0, 1, γ 3) from l2.symm) (zLV (γ 3) rfl (zIP zQ1_ (zLE (show fn137 [ρ 2 + 9 * ρ 1 + 1] (γ 3) = (0, 0, γ 4) from l3.symm) (zLV (γ 4) rfl ?_)))))))
  refine zIN zQ0_ ?_
  rfl
theorem vn142_8 {S : Nat → zSpc} (hS104 : zIm S 104 sn104) (hS106 : zIm S 106 sn106) (hS114 : zIm S 114 sn114) (hS115 : zIm S 115 sn115) (hS136 : zIm S 136 sn136) (hS137 : zIm S 137 sn137) {a : List Int} {g : rHp} : ∀ (ρ : Nat → Int) (γ : Nat → rHp), zO 15 S a g q142_8 ρ γ → zGl (fun _ _ _ => True) (sn142 a g) q142_8 ρ γ := by
  intro ρ γ h
  obtain ⟨ha, hg, hr, hf, hm, hc, hl⟩ := h
  have ha : a = [ρ 0, ρ 1, ρ 2, ρ 3, ρ 4, ρ 5, ρ 6, ρ 7, ρ 8, ρ 9, ρ 10, ρ 11, ρ 12, ρ 13, ρ 14] := ha
  subst ha
  subst hg
  have r15 : (65 : Int) ≤ ρ 15 ∧ ρ 15 ≤ 90 := zRnA hr 15
  have w_0 : (0 : Int) ≤ ρ 15 := by omega
  have m0 : γ 0 1 0 10 = ρ 0 := zAllA hm 0
  have m1 : γ 0 40 0 (ρ 0) = ρ 1 := zAllA hm 1
  have m2 : γ 0 9 (ρ 1) 2 = ρ 2 := zAllA hm 2
  have m15 : γ 1 2 0 6 = ρ 16 := zAllA hm 15
  have l0 : sn114 [ρ 3, ρ 4] (γ 0) 0 (ρ 15) (γ 1) := hS114 _ _ _ _ _ (zAllA hl 0)
  have l1 : sn106 [ρ 15] (γ 1) 0 1 (γ 2) := hS106 _ _ _ _ _ (zAllA hl 1)
  have l2 : sn115 [ρ 16, ρ 4, ρ 9, ρ 11] (γ 2) 0 1 (γ 3) := hS115 _ _ _ _ _ (zAllA hl 2)
  have l3 : sn137 [ρ 2 + 9 * ρ 1 + 1, ρ 17, ρ 4, ρ 5, ρ 9, ρ 10, ρ 16, ρ 12, ρ 13, ρ 6] (γ 3) 0 1 (γ 4) := hS137 _ _ _ _ _ (zAllA hl 3)
  show sn142 [ρ 0, ρ 1, ρ 2, ρ 3, ρ 4, ρ 5, ρ 6, ρ 7, ρ 8, ρ 9, ρ 10, ρ 11, ρ 12, ρ 13, ρ 14] (γ 0) 0 1 (γ 4)
  refine Eq.symm ?_
  show fn142 [] (γ 0) = _
  unfold fn142
  refine zLE m0 (zLE m1 (zLE m2 (zLE (show fn114 [] (γ 0) = (0, ρ 15, γ 1) from l0.symm) (zLV (γ 1) rfl (zIP w_0 (zLV (ρ 15) rfl (zLE m15 ?_)))))))
  refine zLE (show fn106 [ρ 15] (γ 1) = (0, 1, γ 2) from l1.symm) (zLV (γ 2) rfl (zIP zQ1_ (zLE (show fn115 [] (γ 2) = (0, 1, γ 3) from l2.symm) (zLV (γ 3) rfl (zIP zQ1_ (zLE (show fn137 [ρ 2 + 9 * ρ 1 + 1] (γ 3) = (0, 1, γ 4) from l3.symm) (zLV (γ 4) rfl ?_)))))))
  refine zIP zQ1_ ?_
  rfl
theorem yn142 {S : Nat → zSpc} (hS104 : zIm S 104 sn104) (hS106 : zIm S 106 sn106) (hS114 : zIm S 114 sn114) (hS115 : zIm S 115 sn115) (hS136 : zIm S 136 sn136) (hS137 : zIm S 137 sn137) : ∀ x g o v gz, zSem uW uT w142_.2.2.2.1 w142_.2.2.1.1.length S q142 (fun i => q142a.getD i []) (zNA a142_) x g o v gz → sn142 x g o v gz := by
  intro a g o v gz h
  exact zSem_all (l0 := q142) (las := q142a) (S := S) (J := (fun _ _ _ => True)) (P := sn142 a g) (fun _ => (show zAll _ [q142_0, q142_1, q142_2, q142_3, q142_4, q142_5, q142_6, q142_7, q142_8] from (zAll_c (vn142_0 hS104 hS106 hS114 hS115 hS136 hS137) (zAll_c (vn142_1 hS104 hS106 hS114 hS115 hS136 hS137) (zAll_c (vn142_2 hS104 hS106 hS114 hS115 hS136 hS137) (zAll_c (vn142_3 hS104 hS106 hS114 hS115 hS136 hS137) (zAll_c (vn142_4 hS104 hS106 hS114 hS115 hS136 hS137) (zAll_c (vn142_5 hS104 hS106 hS114 hS115 hS136 hS137) (zAll_c (vn142_6 hS104 hS106 hS114 hS115 hS136 hS137) (zAll_c (vn142_7 hS104 hS106 hS114 hS115 hS136 hS137) (zAll_c (vn142_8 hS104 hS106 hS114 hS115 hS136 hS137) zAll_n))))))))))) (fun _ => (show zAllI _ 0 [] from trivial)) h
theorem vn143_0 {S : Nat → zSpc}  {a : List Int} {g : rHp} : ∀ (ρ : Nat → Int) (γ : Nat → rHp), zO 3 S a g q143_0 ρ γ → zGl (fun _ _ _ => True) (sn143 a g) q143_0 ρ γ := by
  intro ρ γ h
  obtain ⟨ha, hg, hr, hf, hm, hc, hl⟩ := h
  have ha : a = [ρ 0, ρ 1, ρ 2] := ha
  subst ha
  subst hg
  have r3 : (0 : Int) ≤ ρ 3 ∧ ρ 3 ≤ 0 := zRnA hr 3
  obtain ⟨w_0, w_1⟩ : (ρ 3 ≠ 1) ∧ (ρ 3 = 0) := ⟨by omega, by omega⟩
  have m0 : γ 0 43 (ρ 0) (ρ 1) = ρ 3 := zAllA hm 0
  have l0 : ρ 3 ≠ 1 := zAllA hl 0
  show sn143 [ρ 0, ρ 1, ρ 2] (γ 0) 0 1 (γ 0)
  refine Eq.symm ?_
  show fn143 [ρ 0, ρ 1, ρ 2] (γ 0) = _
  unfold fn143
  refine zLV (ρ 0) rfl (zLV (ρ 1) rfl (zLV (ρ 2) rfl (zLE m0 (zIP w_0 (zIP w_1 ?_)))))
  rfl
theorem vn143_1 {S : Nat → zSpc}  {a : List Int} {g : rHp} : ∀ (ρ : Nat → Int) (γ : Nat → rHp), zO 3 S a g q143_1 ρ γ → zGl (fun _ _ _ => True) (sn143 a g) q143_1 ρ γ := by
  intro ρ γ h
  obtain ⟨ha, hg, hr, hf, hm, hc, hl⟩ := h
  have ha : a = [ρ 0, ρ 1, ρ 2] := ha
  subst ha
  subst hg
  have r3 : (1 : Int) ≤ ρ 3 ∧ ρ 3 ≤ 4 := zRnA hr 3
  have w_0 : ¬ (ρ 3 = 0) := by omega
  have m0 : γ 0 43 (ρ 0) (ρ 1) = ρ 3 := zAllA hm 0
  have l0 : ρ 3 ≠ 1 := zAllA hl 0
  have wl_0 : ρ 3 ≠ 1 := by omega
  show sn143 [ρ 0, ρ 1, ρ 2] (γ 0) 0 0 (γ 0)
  refine Eq.symm ?_
  show fn143 [ρ 0, ρ 1, ρ 2] (γ 0) = _
  unfold fn143
  refine zLV (ρ 0) rfl (zLV (ρ 1) rfl (zLV (ρ 2) rfl (zLE m0 (zIP wl_0 (zIN w_0 ?_)))))
  rfl
theorem vn143_2 {S : Nat → zSpc}  {a : List Int} {g : rHp} : ∀ (ρ : Nat → Int) (γ : Nat → rHp), zO 3 S a g q143_2 ρ γ → zGl (fun _ _ _ => True) (sn143 a g) q143_2 ρ γ := by
  intro ρ γ h
  obtain ⟨ha, hg, hr, hf, hm, hc, hl⟩ := h
  have ha : a = [ρ 0, ρ 1, ρ 2] := ha
  subst ha
  subst hg
  have r3 : (1 : Int) ≤ ρ 3 ∧ ρ 3 ≤ 1 := zRnA hr 3
  have r6 : (0 : Int) ≤ ρ 6 ∧ ρ 6 ≤ 0 := zRnA hr 6
  obtain ⟨w_0, w_1⟩ : (¬ (ρ 3 ≠ 1)) ∧ (ρ 6 ≠ 1) := ⟨by omega, by omega⟩
  have m0 : γ 0 43 (ρ 0) (ρ 1) = ρ 3 := zAllA hm 0
  have m1 : γ 0 44 (ρ 0) (ρ 1) = ρ 4 := zAllA hm 1
  have l0 : zOpP (.ishr) (γ 0) (γ 1) [ρ 2, ρ 4] (ρ 5) := zAllA hl 0
  have l1 : zOpP (.iand) (γ 0) (γ 1) [ρ 5, 1] (ρ 6) := zAllA hl 1
  show sn143 [ρ 0, ρ 1, ρ 2] (γ 0) 0 0 (γ 0)
  refine Eq.symm ?_
  show fn143 [ρ 0, ρ 1, ρ 2] (γ 0) = _
  unfold fn143
  refine zLV (ρ 0) rfl (zLV (ρ 1) rfl (zLV (ρ 2) rfl (zLE m0 (zIN w_0 (zLE m1 (zLE (zF2_ok l0) (zLE (zF2_ok l1) ?_)))))))
  refine zIP w_1 ?_
  rfl
theorem vn143_3 {S : Nat → zSpc}  {a : List Int} {g : rHp} : ∀ (ρ : Nat → Int) (γ : Nat → rHp), zO 3 S a g q143_3 ρ γ → zGl (fun _ _ _ => True) (sn143 a g) q143_3 ρ γ := by
  intro ρ γ h
  obtain ⟨ha, hg, hr, hf, hm, hc, hl⟩ := h
  have ha : a = [ρ 0, ρ 1, ρ 2] := ha
  subst ha
  subst hg
  have r3 : (1 : Int) ≤ ρ 3 ∧ ρ 3 ≤ 1 := zRnA hr 3
  have r6 : (1 : Int) ≤ ρ 6 ∧ ρ 6 ≤ 1 := zRnA hr 6
  obtain ⟨w_0, w_1⟩ : (¬ (ρ 3 ≠ 1)) ∧ (¬ (ρ 6 ≠ 1)) := ⟨by omega, by omega⟩
  have m0 : γ 0 43 (ρ 0) (ρ 1) = ρ 3 := zAllA hm 0
  have m1 : γ 0 44 (ρ 0) (ρ 1) = ρ 4 := zAllA hm 1
  have l0 : zOpP (.ishr) (γ 0) (γ 1) [ρ 2, ρ 4] (ρ 5) := zAllA hl 0
  have l1 : zOpP (.iand) (γ 0) (γ 1) [ρ 5, 1] (ρ 6) := zAllA hl 1
  show sn143 [ρ 0, ρ 1, ρ 2] (γ 0) 0 1 (γ 0)
  refine Eq.symm ?_
  show fn143 [ρ 0, ρ 1, ρ 2] (γ 0) = _
  unfold fn143
  refine zLV (ρ 0) rfl (zLV (ρ 1) rfl (zLV (ρ 2) rfl (zLE m0 (zIN w_0 (zLE m1 (zLE (zF2_ok l0) (zLE (zF2_ok l1) ?_)))))))
  refine zIN w_1 ?_
  rfl
theorem yn143 {S : Nat → zSpc}  : ∀ x g o v gz, zSem uW uT w143_.2.2.2.1 w143_.2.2.1.1.length S q143 (fun i => q143a.getD i []) (zNA a143_) x g o v gz → sn143 x g o v gz := by
  intro a g o v gz h
  exact zSem_all (l0 := q143) (las := q143a) (S := S) (J := (fun _ _ _ => True)) (P := sn143 a g) (fun _ => (show zAll _ [q143_0, q143_1, q143_2, q143_3] from (zAll_c (vn143_0 ) (zAll_c (vn143_1 ) (zAll_c (vn143_2 ) (zAll_c (vn143_3 ) zAll_n)))))) (fun _ => (show zAllI _ 0 [] from trivial)) h
