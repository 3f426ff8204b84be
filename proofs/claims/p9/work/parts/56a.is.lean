/-! ===== the runs are the functions ===== -/
theorem vn0_0 {S : Nat → zSpc}  {a : List Int} {g : rHp} : ∀ (ρ : Nat → Int) (γ : Nat → rHp), zO 1 S a g q0_0 ρ γ → zGl (fun _ _ _ => True) (sn0 a g) q0_0 ρ γ := by
  intro ρ γ h
  obtain ⟨ha, hg, hr, hf, hm, hc, hl⟩ := h
  have ha : a = [ρ 0] := ha
  subst ha
  subst hg
  obtain ⟨m0, -⟩ := hm
  have m0 : γ 0 15 0 0 = ρ 0 := m0
  show sn0 [ρ 0] (γ 0) 0 (ρ 0) (γ 0)
  refine Eq.symm ?_
  show fn0 [] (γ 0) = _
  unfold fn0
  refine (zLet_eq m0).trans ?_
  rfl
theorem yn0 {S : Nat → zSpc}  : ∀ x g o v gz, zSem uW uT w0_.2.2.2.1 w0_.2.2.1.1.length S q0 (fun i => q0a.getD i []) (zNA a0_) x g o v gz → sn0 x g o v gz := by
  intro a g o v gz h
  exact zSem_all (l0 := q0) (las := q0a) (S := S) (J := (fun _ _ _ => True)) (P := sn0 a g) (fun _ => (show zAll _ [q0_0] from (zAll_c (vn0_0 ) zAll_n))) (fun _ => (show zAllI _ 0 [] from trivial)) h
theorem vn1_0 {S : Nat → zSpc}  {a : List Int} {g : rHp} : ∀ (ρ : Nat → Int) (γ : Nat → rHp), zO 2 S a g q1_0 ρ γ → zGl (fun _ _ _ => True) (sn1 a g) q1_0 ρ γ := by
  intro ρ γ h
  obtain ⟨ha, hg, hr, hf, hm, hc, hl⟩ := h
  have ha : a = [ρ 0, ρ 1] := ha
  subst ha
  subst hg
  obtain ⟨r0, -⟩ := hr
  have r0 : (0 : Int) ≤ ρ 0 ∧ ρ 0 ≤ 0 := r0
  have w_0 : ρ 0 = 0 := by omega
  obtain ⟨-, c1⟩ := hc
  have c1 : γ 1 = rUp (γ 0) 15 0 0 (ρ 0) := c1
  show sn1 [ρ 0, ρ 1] (γ 0) 0 0 (γ 1)
  refine Eq.symm ?_
  show fn1 [ρ 0] (γ 0) = _
  unfold fn1
  refine (zLet_eq (show _ = ρ 0 from rfl)).trans ?_
  refine (zLet_eq c1.symm).trans ?_
  refine (if_pos w_0).trans ?_
  rfl
theorem vn1_1 {S : Nat → zSpc}  {a : List Int} {g : rHp} : ∀ (ρ : Nat → Int) (γ : Nat → rHp), zO 2 S a g q1_1 ρ γ → zGl (fun _ _ _ => True) (sn1 a g) q1_1 ρ γ := by
  intro ρ γ h
  obtain ⟨ha, hg, hr, hf, hm, hc, hl⟩ := h
  have ha : a = [ρ 0, ρ 1] := ha
  subst ha
  subst hg
  obtain ⟨r0, -⟩ := hr
  have r0 : (1 : Int) ≤ ρ 0 ∧ ρ 0 ≤ 3 := r0
  have w_0 : ¬ (ρ 0 = 0) := by omega
  obtain ⟨-, c1⟩ := hc
  have c1 : γ 1 = rUp (γ 0) 15 0 0 (ρ 0) := c1
  show sn1 [ρ 0, ρ 1] (γ 0) 0 1 (γ 1)
  refine Eq.symm ?_
  show fn1 [ρ 0] (γ 0) = _
  unfold fn1
  refine (zLet_eq (show _ = ρ 0 from rfl)).trans ?_
  refine (zLet_eq c1.symm).trans ?_
  refine (if_neg w_0).trans ?_
  rfl
theorem yn1 {S : Nat → zSpc}  : ∀ x g o v gz, zSem uW uT w1_.2.2.2.1 w1_.2.2.1.1.length S q1 (fun i => q1a.getD i []) (zNA a1_) x g o v gz → sn1 x g o v gz := by
  intro a g o v gz h
  exact zSem_all (l0 := q1) (las := q1a) (S := S) (J := (fun _ _ _ => True)) (P := sn1 a g) (fun _ => (show zAll _ [q1_0, q1_1] from (zAll_c (vn1_0 ) (zAll_c (vn1_1 ) zAll_n)))) (fun _ => (show zAllI _ 0 [] from trivial)) h
theorem vn2_0 {S : Nat → zSpc}  {a : List Int} {g : rHp} : ∀ (ρ : Nat → Int) (γ : Nat → rHp), zO 2 S a g q2_0 ρ γ → zGl (fun _ _ _ => True) (sn2 a g) q2_0 ρ γ := by
  intro ρ γ h
  obtain ⟨ha, hg, hr, hf, hm, hc, hl⟩ := h
  have ha : a = [ρ 0, ρ 1] := ha
  subst ha
  subst hg
  obtain ⟨m0, -⟩ := hm
  have m0 : γ 0 15 0 3 = ρ 1 := m0
  obtain ⟨⟨⟨⟨⟨⟨⟨⟨-, c1⟩, c2⟩, c3⟩, c4⟩, c5⟩, c6⟩, c7⟩, c8⟩ := hc
  have c1 : γ 1 = rUp (γ 0) 59 0 (ρ 1) (ρ 3) := c1
  have c2 : γ 2 = rUp (γ 1) 15 0 3 (ρ 1 + 1) := c2
  have c3 : γ 3 = rUp (γ 2) 59 0 (ρ 1 + 1) (ρ 5) := c3
  have c4 : γ 4 = rUp (γ 3) 15 0 3 (ρ 1 + 2) := c4
  have c5 : γ 5 = rUp (γ 4) 59 0 (ρ 1 + 2) (ρ 7) := c5
  have c6 : γ 6 = rUp (γ 5) 15 0 3 (ρ 1 + 3) := c6
  have c7 : γ 7 = rUp (γ 6) 59 0 (ρ 1 + 3) (ρ 9) := c7
  have c8 : γ 8 = rUp (γ 7) 15 0 3 (ρ 1 + 4) := c8
  obtain ⟨l0, l1, l2, l3, l4, l5, l6, l7, -⟩ := hl
  have l0 : zOpP (.ishr) (γ 0) (γ 1) [ρ 0, 24] (ρ 2) := l0
  have l1 : zOpP (.i2b) (γ 0) (γ 1) [ρ 2] (ρ 3) := l1
  have l2 : zOpP (.ishr) (γ 0) (γ 1) [ρ 0, 16] (ρ 4) := l2
  have l3 : zOpP (.i2b) (γ 0) (γ 1) [ρ 4] (ρ 5) := l3
  have l4 : zOpP (.ishr) (γ 0) (γ 1) [ρ 0, 8] (ρ 6) := l4
  have l5 : zOpP (.i2b) (γ 0) (γ 1) [ρ 6] (ρ 7) := l5
  have l6 : zOpP (.ishr) (γ 0) (γ 1) [ρ 0, 0] (ρ 8) := l6
  have l7 : zOpP (.i2b) (γ 0) (γ 1) [ρ 8] (ρ 9) := l7
  show sn2 [ρ 0, ρ 1] (γ 0) 0 0 (γ 8)
  refine Eq.symm ?_
  show fn2 [ρ 0] (γ 0) = _
  unfold fn2
  refine (zLet_eq (show _ = ρ 0 from rfl)).trans ?_
  refine (zLet_eq m0).trans ?_
  refine (zLet_eq (zF2_ok l0)).trans ?_
  refine (zLet_eq (zF1_ok l1)).trans ?_
  refine (zLet_eq c1.symm).trans ?_
  refine (zLet_eq c2.symm).trans ?_
  refine (zLet_eq (zF2_ok l2)).trans ?_
  refine (zLet_eq (zF1_ok l3)).trans ?_
  refine (zLet_eq c3.symm).trans ?_
  refine (zLet_eq c4.symm).trans ?_
  refine (zLet_eq (zF2_ok l4)).trans ?_
  refine (zLet_eq (zF1_ok l5)).trans ?_
  refine (zLet_eq c5.symm).trans ?_
  refine (zLet_eq c6.symm).trans ?_
  refine (zLet_eq (zF2_ok l6)).trans ?_
  refine (zLet_eq (zF1_ok l7)).trans ?_
  refine (zLet_eq c7.symm).trans ?_
  refine (zLet_eq c8.symm).trans ?_
  rfl
theorem yn2 {S : Nat → zSpc}  : ∀ x g o v gz, zSem uW uT w2_.2.2.2.1 w2_.2.2.1.1.length S q2 (fun i => q2a.getD i []) (zNA a2_) x g o v gz → sn2 x g o v gz := by
  intro a g o v gz h
  exact zSem_all (l0 := q2) (las := q2a) (S := S) (J := (fun _ _ _ => True)) (P := sn2 a g) (fun _ => (show zAll _ [q2_0] from (zAll_c (vn2_0 ) zAll_n))) (fun _ => (show zAllI _ 0 [] from trivial)) h
theorem vn3_0 {S : Nat → zSpc} (hS1 : ∀ x g o v gz, S 1 x g o v gz → sn1 x g o v gz) (hS2 : ∀ x g o v gz, S 2 x g o v gz → sn2 x g o v gz) {a : List Int} {g : rHp} : ∀ (ρ : Nat → Int) (γ : Nat → rHp), zO 7 S a g q3_0 ρ γ → zGl (fun _ _ _ => True) (sn3 a g) q3_0 ρ γ := by
  intro ρ γ h
  obtain ⟨ha, hg, hr, hf, hm, hc, hl⟩ := h
  have ha : a = [ρ 0, ρ 1, ρ 2, ρ 3, ρ 4, ρ 5, ρ 6] := ha
  subst ha
  subst hg
  obtain ⟨-, -, -, -, -, r5, -⟩ := hr
  have r5 : (0 : Int) ≤ ρ 5 ∧ ρ 5 ≤ 1980 := r5
  have w_0 : ρ 5 + 20 ≤ 2000 := by omega
  obtain ⟨m0, -⟩ := hm
  have m0 : γ 0 15 0 3 = ρ 5 := m0
  obtain ⟨l0, l1, l2, l3, l4, l5, -⟩ := hl
  have l0 : sn1 [0, ρ 6] (γ 0) 0 0 (γ 1) := hS1 _ _ _ _ _ l0
  have l1 : sn2 [ρ 0, ρ 5] (γ 1) 0 0 (γ 2) := hS2 _ _ _ _ _ l1
  have l2 : sn2 [ρ 1, ρ 5 + 4] (γ 2) 0 0 (γ 3) := hS2 _ _ _ _ _ l2
  have l3 : sn2 [ρ 2, ρ 5 + 8] (γ 3) 0 0 (γ 4) := hS2 _ _ _ _ _ l3
  have l4 : sn2 [ρ 3, ρ 5 + 12] (γ 4) 0 0 (γ 5) := hS2 _ _ _ _ _ l4
  have l5 : sn2 [ρ 4, ρ 5 + 16] (γ 5) 0 0 (γ 6) := hS2 _ _ _ _ _ l5
  show sn3 [ρ 0, ρ 1, ρ 2, ρ 3, ρ 4, ρ 5, ρ 6] (γ 0) 0 (ρ 5 + 20) (γ 6)
  refine Eq.symm ?_
  show fn3 [ρ 0, ρ 1, ρ 2, ρ 3, ρ 4] (γ 0) = _
  unfold fn3
  refine (zLet_eq (show _ = ρ 0 from rfl)).trans ?_
  refine (zLet_eq (show _ = ρ 1 from rfl)).trans ?_
  refine (zLet_eq (show _ = ρ 2 from rfl)).trans ?_
  refine (zLet_eq (show _ = ρ 3 from rfl)).trans ?_
  refine (zLet_eq (show _ = ρ 4 from rfl)).trans ?_
  refine (zLet_eq m0).trans ?_
  refine (if_pos w_0).trans ?_
  refine (zLet_eq (show fn1 [0] (γ 0) = (0, 0, γ 1) from l0.symm)).trans ?_
  refine (zLet_eq (show _ = γ 1 from rfl)).trans ?_
  refine (zLet_eq (show fn2 [ρ 0] (γ 1) = (0, 0, γ 2) from l1.symm)).trans ?_
  refine (zLet_eq (show _ = γ 2 from rfl)).trans ?_
  refine (zLet_eq (show fn2 [ρ 1] (γ 2) = (0, 0, γ 3) from l2.symm)).trans ?_
  refine (zLet_eq (show _ = γ 3 from rfl)).trans ?_
  refine (zLet_eq (show fn2 [ρ 2] (γ 3) = (0, 0, γ 4) from l3.symm)).trans ?_
  refine (zLet_eq (show _ = γ 4 from rfl)).trans ?_
  refine (zLet_eq (show fn2 [ρ 3] (γ 4) = (0, 0, γ 5) from l4.symm)).trans ?_
  refine (zLet_eq (show _ = γ 5 from rfl)).trans ?_
  refine (zLet_eq (show fn2 [ρ 4] (γ 5) = (0, 0, γ 6) from l5.symm)).trans ?_
  refine (zLet_eq (show _ = γ 6 from rfl)).trans ?_
  rfl
theorem vn3_1 {S : Nat → zSpc} (hS1 : ∀ x g o v gz, S 1 x g o v gz → sn1 x g o v gz) (hS2 : ∀ x g o v gz, S 2 x g o v gz → sn2 x g o v gz) {a : List Int} {g : rHp} : ∀ (ρ : Nat → Int) (γ : Nat → rHp), zO 7 S a g q3_1 ρ γ → zGl (fun _ _ _ => True) (sn3 a g) q3_1 ρ γ := by
  intro ρ γ h
  obtain ⟨ha, hg, hr, hf, hm, hc, hl⟩ := h
  have ha : a = [ρ 0, ρ 1, ρ 2, ρ 3, ρ 4, ρ 5, ρ 6] := ha
  subst ha
  subst hg
  obtain ⟨-, -, -, -, -, r5, -⟩ := hr
  have r5 : (1981 : Int) ≤ ρ 5 ∧ ρ 5 ≤ 2000 := r5
  have w_0 : ¬ (ρ 5 + 20 ≤ 2000) := by omega
  obtain ⟨m0, -⟩ := hm
  have m0 : γ 0 15 0 3 = ρ 5 := m0
  obtain ⟨l0, -⟩ := hl
  have l0 : sn1 [1, ρ 6] (γ 0) 0 1 (γ 1) := hS1 _ _ _ _ _ l0
  show sn3 [ρ 0, ρ 1, ρ 2, ρ 3, ρ 4, ρ 5, ρ 6] (γ 0) 0 0 (γ 1)
  refine Eq.symm ?_
  show fn3 [ρ 0, ρ 1, ρ 2, ρ 3, ρ 4] (γ 0) = _
  unfold fn3
  refine (zLet_eq (show _ = ρ 0 from rfl)).trans ?_
  refine (zLet_eq (show _ = ρ 1 from rfl)).trans ?_
  refine (zLet_eq (show _ = ρ 2 from rfl)).trans ?_
  refine (zLet_eq (show _ = ρ 3 from rfl)).trans ?_
  refine (zLet_eq (show _ = ρ 4 from rfl)).trans ?_
  refine (zLet_eq m0).trans ?_
  refine (if_neg w_0).trans ?_
  refine (zLet_eq (show fn1 [1] (γ 0) = (0, 1, γ 1) from l0.symm)).trans ?_
  refine (zLet_eq (show _ = γ 1 from rfl)).trans ?_
  rfl
theorem yn3 {S : Nat → zSpc} (hS1 : ∀ x g o v gz, S 1 x g o v gz → sn1 x g o v gz) (hS2 : ∀ x g o v gz, S 2 x g o v gz → sn2 x g o v gz) : ∀ x g o v gz, zSem uW uT w3_.2.2.2.1 w3_.2.2.1.1.length S q3 (fun i => q3a.getD i []) (zNA a3_) x g o v gz → sn3 x g o v gz := by
  intro a g o v gz h
  exact zSem_all (l0 := q3) (las := q3a) (S := S) (J := (fun _ _ _ => True)) (P := sn3 a g) (fun _ => (show zAll _ [q3_0, q3_1] from (zAll_c (vn3_0 hS1 hS2) (zAll_c (vn3_1 hS1 hS2) zAll_n)))) (fun _ => (show zAllI _ 0 [] from trivial)) h
theorem vn4_0 {S : Nat → zSpc} (hS1 : ∀ x g o v gz, S 1 x g o v gz → sn1 x g o v gz) {a : List Int} {g : rHp} : ∀ (ρ : Nat → Int) (γ : Nat → rHp), zO 3 S a g q4_0 ρ γ → zGl (fun _ _ _ => True) (sn4 a g) q4_0 ρ γ := by
  intro ρ γ h
  obtain ⟨ha, hg, hr, hf, hm, hc, hl⟩ := h
  have ha : a = [ρ 0, ρ 1, ρ 2] := ha
  subst ha
  subst hg
  obtain ⟨r0, -⟩ := hr
  have r0 : ((-2147483648) : Int) ≤ ρ 0 ∧ ρ 0 ≤ (-1) := r0
  have w_0 : ρ 0 < 0 := by omega
  obtain ⟨m0, -⟩ := hm
  have m0 : γ 0 15 0 3 = ρ 1 := m0
  obtain ⟨l0, -⟩ := hl
  have l0 : sn1 [1, ρ 2] (γ 0) 0 1 (γ 1) := hS1 _ _ _ _ _ l0
  show sn4 [ρ 0, ρ 1, ρ 2] (γ 0) 0 0 (γ 1)
  refine Eq.symm ?_
  show fn4 [ρ 0] (γ 0) = _
  unfold fn4
  refine (zLet_eq (show _ = ρ 0 from rfl)).trans ?_
  refine (zLet_eq m0).trans ?_
  refine (if_pos w_0).trans ?_
  refine (zLet_eq (show fn1 [1] (γ 0) = (0, 1, γ 1) from l0.symm)).trans ?_
  refine (zLet_eq (show _ = γ 1 from rfl)).trans ?_
  rfl
theorem vn4_1 {S : Nat → zSpc} (hS1 : ∀ x g o v gz, S 1 x g o v gz → sn1 x g o v gz) {a : List Int} {g : rHp} : ∀ (ρ : Nat → Int) (γ : Nat → rHp), zO 3 S a g q4_1 ρ γ → zGl (fun _ _ _ => True) (sn4 a g) q4_1 ρ γ := by
  intro ρ γ h
  obtain ⟨ha, hg, hr, hf, hm, hc, hl⟩ := h
  have ha : a = [ρ 0, ρ 1, ρ 2] := ha
  subst ha
  subst hg
  obtain ⟨r0, -⟩ := hr
  have r0 : (0 : Int) ≤ ρ 0 ∧ ρ 0 ≤ 2147483647 := r0
  obtain ⟨f0, -⟩ := hf
  have f0 : (0 : Int) ≤ ρ 1 + -ρ 0 := f0
  obtain ⟨w_0, w_1⟩ : (¬ (ρ 0 < 0)) ∧ (ρ 0 ≤ ρ 1) := ⟨by omega, by omega⟩
  obtain ⟨m0, -⟩ := hm
  have m0 : γ 0 15 0 3 = ρ 1 := m0
  obtain ⟨-, c2⟩ := hc
  have c2 : γ 2 = rUp (γ 1) 15 0 3 (ρ 0) := c2
  obtain ⟨l0, -⟩ := hl
  have l0 : sn1 [0, ρ 2] (γ 0) 0 0 (γ 1) := hS1 _ _ _ _ _ l0
  show sn4 [ρ 0, ρ 1, ρ 2] (γ 0) 0 (ρ 0) (γ 2)
  refine Eq.symm ?_
  show fn4 [ρ 0] (γ 0) = _
  unfold fn4
  refine (zLet_eq (show _ = ρ 0 from rfl)).trans ?_
  refine (zLet_eq m0).trans ?_
  refine (if_neg w_0).trans ?_
  refine (if_pos w_1).trans ?_
  refine (zLet_eq (show fn1 [0] (γ 0) = (0, 0, γ 1) from l0.symm)).trans ?_
  refine (zLet_eq (show _ = γ 1 from rfl)).trans ?_
  refine (zLet_eq c2.symm).trans ?_
  rfl
theorem vn4_2 {S : Nat → zSpc} (hS1 : ∀ x g o v gz, S 1 x g o v gz → sn1 x g o v gz) {a : List Int} {g : rHp} : ∀ (ρ : Nat → Int) (γ : Nat → rHp), zO 3 S a g q4_2 ρ γ → zGl (fun _ _ _ => True) (sn4 a g) q4_2 ρ γ := by
  intro ρ γ h
  obtain ⟨ha, hg, hr, hf, hm, hc, hl⟩ := h
  have ha : a = [ρ 0, ρ 1, ρ 2] := ha
  subst ha
  subst hg
  obtain ⟨r0, -⟩ := hr
  have r0 : (0 : Int) ≤ ρ 0 ∧ ρ 0 ≤ 2147483647 := r0
  obtain ⟨f0, -⟩ := hf
  have f0 : (0 : Int) ≤ -ρ 1 + ρ 0 + (-1) := f0
  obtain ⟨w_0, w_1⟩ : (¬ (ρ 0 < 0)) ∧ (¬ (ρ 0 ≤ ρ 1)) := ⟨by omega, by omega⟩
  obtain ⟨m0, -⟩ := hm
  have m0 : γ 0 15 0 3 = ρ 1 := m0
  obtain ⟨l0, -⟩ := hl
  have l0 : sn1 [1, ρ 2] (γ 0) 0 1 (γ 1) := hS1 _ _ _ _ _ l0
  show sn4 [ρ 0, ρ 1, ρ 2] (γ 0) 0 0 (γ 1)
  refine Eq.symm ?_
  show fn4 [ρ 0] (γ 0) = _
  unfold fn4
  refine (zLet_eq (show _ = ρ 0 from rfl)).trans ?_
  refine (zLet_eq m0).trans ?_
  refine (if_neg w_0).trans ?_
  refine (if_neg w_1).trans ?_
  refine (zLet_eq (show fn1 [1] (γ 0) = (0, 1, γ 1) from l0.symm)).trans ?_
  refine (zLet_eq (show _ = γ 1 from rfl)).trans ?_
  rfl
theorem yn4 {S : Nat → zSpc} (hS1 : ∀ x g o v gz, S 1 x g o v gz → sn1 x g o v gz) : ∀ x g o v gz, zSem uW uT w4_.2.2.2.1 w4_.2.2.1.1.length S q4 (fun i => q4a.getD i []) (zNA a4_) x g o v gz → sn4 x g o v gz := by
  intro a g o v gz h
  exact zSem_all (l0 := q4) (las := q4a) (S := S) (J := (fun _ _ _ => True)) (P := sn4 a g) (fun _ => (show zAll _ [q4_0, q4_1, q4_2] from (zAll_c (vn4_0 hS1) (zAll_c (vn4_1 hS1) (zAll_c (vn4_2 hS1) zAll_n))))) (fun _ => (show zAllI _ 0 [] from trivial)) h
theorem vn5_0 {S : Nat → zSpc}  {a : List Int} {g : rHp} : ∀ (ρ : Nat → Int) (γ : Nat → rHp), zO 3 S a g q5_0 ρ γ → zGl (fun _ _ _ => True) (sn5 a g) q5_0 ρ γ := by
  intro ρ γ h
  obtain ⟨ha, hg, hr, hf, hm, hc, hl⟩ := h
  have ha : a = [ρ 0, ρ 1, ρ 2] := ha
  subst ha
  subst hg
  obtain ⟨m0, -⟩ := hm
  have m0 : γ 0 15 0 3 = ρ 0 := m0
  obtain ⟨⟨⟨-, c1⟩, c2⟩, c3⟩ := hc
  have c1 : γ 1 = rUp (γ 0) 15 0 34 (ρ 0) := c1
  have c2 : γ 2 = rUp (γ 1) 15 0 3 0 := c2
  have c3 : γ 3 = rUp (γ 2) 15 0 35 0 := c3
  show sn5 [ρ 0, ρ 1, ρ 2] (γ 0) 0 0 (γ 3)
  refine Eq.symm ?_
  show fn5 [] (γ 0) = _
  unfold fn5
  refine (zLet_eq m0).trans ?_
  refine (zLet_eq c1.symm).trans ?_
  refine (zLet_eq c2.symm).trans ?_
  refine (zLet_eq c3.symm).trans ?_
  rfl
theorem yn5 {S : Nat → zSpc}  : ∀ x g o v gz, zSem uW uT w5_.2.2.2.1 w5_.2.2.1.1.length S q5 (fun i => q5a.getD i []) (zNA a5_) x g o v gz → sn5 x g o v gz := by
  intro a g o v gz h
  exact zSem_all (l0 := q5) (las := q5a) (S := S) (J := (fun _ _ _ => True)) (P := sn5 a g) (fun _ => (show zAll _ [q5_0] from (zAll_c (vn5_0 ) zAll_n))) (fun _ => (show zAllI _ 0 [] from trivial)) h
theorem vn6_0 {S : Nat → zSpc}  {a : List Int} {g : rHp} : ∀ (ρ : Nat → Int) (γ : Nat → rHp), zO 2 S a g q6_0 ρ γ → zGl (fun _ _ _ => True) (sn6 a g) q6_0 ρ γ := by
  intro ρ γ h
  obtain ⟨ha, hg, hr, hf, hm, hc, hl⟩ := h
  have ha : a = [ρ 0, ρ 1] := ha
  subst ha
  subst hg
  obtain ⟨f0, -⟩ := hf
  have f0 : (0 : Int) ≤ -ρ 1 + ρ 0 := f0
  have w_0 : ρ 0 ≥ ρ 1 := by omega
  obtain ⟨m0, -⟩ := hm
  have m0 : γ 0 15 0 34 = ρ 1 := m0
  show sn6 [ρ 0, ρ 1] (γ 0) 0 (-1) (γ 0)
  refine Eq.symm ?_
  show fn6 [ρ 0] (γ 0) = _
  unfold fn6
  refine (zLet_eq (show _ = ρ 0 from rfl)).trans ?_
  refine (zLet_eq m0).trans ?_
  refine (if_pos w_0).trans ?_
  rfl
theorem vn6_1 {S : Nat → zSpc}  {a : List Int} {g : rHp} : ∀ (ρ : Nat → Int) (γ : Nat → rHp), zO 2 S a g q6_1 ρ γ → zGl (fun _ _ _ => True) (sn6 a g) q6_1 ρ γ := by
  intro ρ γ h
  obtain ⟨ha, hg, hr, hf, hm, hc, hl⟩ := h
  have ha : a = [ρ 0, ρ 1] := ha
  subst ha
  subst hg
  obtain ⟨f0, -⟩ := hf
  have f0 : (0 : Int) ≤ ρ 1 + -ρ 0 + (-1) := f0
  have w_0 : ¬ (ρ 0 ≥ ρ 1) := by omega
  obtain ⟨m0, m1, -⟩ := hm
  have m0 : γ 0 15 0 34 = ρ 1 := m0
  have m1 : γ 0 59 0 (ρ 0) = ρ 2 := m1
  show sn6 [ρ 0, ρ 1] (γ 0) 0 (ρ 2) (γ 0)
  refine Eq.symm ?_
  show fn6 [ρ 0] (γ 0) = _
  unfold fn6
  refine (zLet_eq (show _ = ρ 0 from rfl)).trans ?_
  refine (zLet_eq m0).trans ?_
  refine (if_neg w_0).trans ?_
  refine (zLet_eq m1).trans ?_
  rfl
theorem yn6 {S : Nat → zSpc}  : ∀ x g o v gz, zSem uW uT w6_.2.2.2.1 w6_.2.2.1.1.length S q6 (fun i => q6a.getD i []) (zNA a6_) x g o v gz → sn6 x g o v gz := by
  intro a g o v gz h
  exact zSem_all (l0 := q6) (las := q6a) (S := S) (J := (fun _ _ _ => True)) (P := sn6 a g) (fun _ => (show zAll _ [q6_0, q6_1] from (zAll_c (vn6_0 ) (zAll_c (vn6_1 ) zAll_n)))) (fun _ => (show zAllI _ 0 [] from trivial)) h
theorem vn7_0 {S : Nat → zSpc} (hS6 : ∀ x g o v gz, S 6 x g o v gz → sn6 x g o v gz) {a : List Int} {g : rHp} : ∀ (ρ : Nat → Int) (γ : Nat → rHp), zO 2 S a g q7_0 ρ γ → zGl (fun i vs g1 => jn7 a g i vs g1) (sn7 a g) q7_0 ρ γ := by
  intro ρ γ h
  obtain ⟨ha, hg, hr, hf, hm, hc, hl⟩ := h
  have ha : a = [ρ 0, ρ 1] := ha
  subst ha
  subst hg
  obtain ⟨-, -, r2, -⟩ := hr
  have r2 : (32 : Int) ≤ ρ 2 ∧ ρ 2 ≤ 32 := r2
  obtain ⟨f0, -⟩ := hf
  have f0 : (0 : Int) ≤ ρ 1 + -ρ 0 + (-1) := f0
  obtain ⟨w_0, w_1⟩ : (0 ≤ ρ 1 + -ρ 0 + (-1)) ∧ (ρ 2 = 32) := ⟨by omega, by omega⟩
  obtain ⟨m0, m1, -⟩ := hm
  have m0 : γ 0 15 0 35 = ρ 0 := m0
  have m1 : γ 0 15 0 34 = ρ 1 := m1
  obtain ⟨-, c2⟩ := hc
  have c2 : γ 2 = rUp (γ 1) 15 0 35 (ρ 0 + 1) := c2
  obtain ⟨l0, -⟩ := hl
  have l0 : sn6 [ρ 0, ρ 1] (γ 0) 0 (ρ 2) (γ 1) := hS6 _ _ _ _ _ l0
  show jn7 [ρ 0, ρ 1] (γ 0) 0 [ρ 0, ρ 1, ρ 0 + 1] (γ 2)
  have hD : dn7 [] (γ 0) = .inl (0, [], γ 2) := by
    unfold dn7
    refine (zLet_eq m0).trans ?_
    refine (zLet_eq m1).trans ?_
    refine (zLet_eq (show fn6 [ρ 0] (γ 0) = (0, ρ 2, γ 1) from l0.symm)).trans ?_
    refine (zLet_eq (show _ = γ 1 from rfl)).trans ?_
    refine (if_pos w_0).trans ?_
    refine (zLet_eq (show _ = ρ 2 from rfl)).trans ?_
    refine (if_pos w_1).trans ?_
    refine (zLet_eq c2.symm).trans ?_
    rfl
  exact zGoo_to hD
theorem vn7_1 {S : Nat → zSpc} (hS6 : ∀ x g o v gz, S 6 x g o v gz → sn6 x g o v gz) {a : List Int} {g : rHp} : ∀ (ρ : Nat → Int) (γ : Nat → rHp), zO 2 S a g q7_1 ρ γ → zGl (fun i vs g1 => jn7 a g i vs g1) (sn7 a g) q7_1 ρ γ := by
  intro ρ γ h
  obtain ⟨ha, hg, hr, hf, hm, hc, hl⟩ := h
  have ha : a = [ρ 0, ρ 1] := ha
  subst ha
  subst hg
  obtain ⟨-, -, r2, r3, -⟩ := hr
  have r2 : ((-128) : Int) ≤ ρ 2 ∧ ρ 2 ≤ 127 := r2
  have r3 : ((-128) : Int) ≤ ρ 3 ∧ ρ 3 ≤ 127 := r3
  obtain ⟨f0, -⟩ := hf
  have f0 : (0 : Int) ≤ ρ 1 + -ρ 0 + (-1) := f0
  have w_0 : 0 ≤ ρ 1 + -ρ 0 + (-1) := by omega
  obtain ⟨m0, m1, -⟩ := hm
  have m0 : γ 0 15 0 35 = ρ 0 := m0
  have m1 : γ 0 15 0 34 = ρ 1 := m1
  obtain ⟨l0, l1, l2, l3, -⟩ := hl
  have l0 : sn6 [ρ 0, ρ 1] (γ 0) 0 (ρ 2) (γ 1) := hS6 _ _ _ _ _ l0
  have l1 : ρ 2 ≠ 32 := l1
  have l2 : sn6 [ρ 0, ρ 1] (γ 1) 0 (ρ 3) (γ 2) := hS6 _ _ _ _ _ l2
  have l3 : ρ 3 ≠ 10 := l3
  obtain ⟨wl_0, wl_1⟩ : (¬ (ρ 2 = 32)) ∧ (ρ 3 ≠ 10) := ⟨by omega, by omega⟩
  show sn7 [ρ 0, ρ 1] (γ 0) 0 0 (γ 2)
  have hD : dn7 [] (γ 0) = .inr (0, 0, γ 2) := by
    unfold dn7
    refine (zLet_eq m0).trans ?_
    refine (zLet_eq m1).trans ?_
    refine (zLet_eq (show fn6 [ρ 0] (γ 0) = (0, ρ 2, γ 1) from l0.symm)).trans ?_
    refine (zLet_eq (show _ = γ 1 from rfl)).trans ?_
    refine (if_pos w_0).trans ?_
    refine (zLet_eq (show _ = ρ 2 from rfl)).trans ?_
    refine (if_neg wl_0).trans ?_
    refine (zLet_eq (show fn6 [ρ 0] (γ 1) = (0, ρ 3, γ 2) from l2.symm)).trans ?_
    refine (zLet_eq (show _ = γ 2 from rfl)).trans ?_
    refine (zLet_eq (show _ = ρ 3 from rfl)).trans ?_
    refine (if_pos wl_1).trans ?_
    rfl
  exact zGoo_end hD
theorem vn7_2 {S : Nat → zSpc} (hS6 : ∀ x g o v gz, S 6 x g o v gz → sn6 x g o v gz) {a : List Int} {g : rHp} : ∀ (ρ : Nat → Int) (γ : Nat → rHp), zO 2 S a g q7_2 ρ γ → zGl (fun i vs g1 => jn7 a g i vs g1) (sn7 a g) q7_2 ρ γ := by
  intro ρ γ h
  obtain ⟨ha, hg, hr, hf, hm, hc, hl⟩ := h
  have ha : a = [ρ 0, ρ 1] := ha
  subst ha
  subst hg
  obtain ⟨-, -, r2, r3, -⟩ := hr
  have r2 : ((-128) : Int) ≤ ρ 2 ∧ ρ 2 ≤ 127 := r2
  have r3 : (10 : Int) ≤ ρ 3 ∧ ρ 3 ≤ 10 := r3
  obtain ⟨f0, -⟩ := hf
  have f0 : (0 : Int) ≤ ρ 1 + -ρ 0 + (-1) := f0
  obtain ⟨w_0, w_1⟩ : (0 ≤ ρ 1 + -ρ 0 + (-1)) ∧ (¬ (ρ 3 ≠ 10)) := ⟨by omega, by omega⟩
  obtain ⟨m0, m1, -⟩ := hm
  have m0 : γ 0 15 0 35 = ρ 0 := m0
  have m1 : γ 0 15 0 34 = ρ 1 := m1
  obtain ⟨-, c3⟩ := hc
  have c3 : γ 3 = rUp (γ 2) 15 0 35 (ρ 0 + 1) := c3
  obtain ⟨l0, l1, l2, -⟩ := hl
  have l0 : sn6 [ρ 0, ρ 1] (γ 0) 0 (ρ 2) (γ 1) := hS6 _ _ _ _ _ l0
  have l1 : ρ 2 ≠ 32 := l1
  have l2 : sn6 [ρ 0, ρ 1] (γ 1) 0 (ρ 3) (γ 2) := hS6 _ _ _ _ _ l2
  have wl_0 : ¬ (ρ 2 = 32) := by omega
  show jn7 [ρ 0, ρ 1] (γ 0) 0 [ρ 0, ρ 1, ρ 0 + 1] (γ 3)
  have hD : dn7 [] (γ 0) = .inl (0, [], γ 3) := by
    unfold dn7
    refine (zLet_eq m0).trans ?_
    refine (zLet_eq m1).trans ?_
    refine (zLet_eq (show fn6 [ρ 0] (γ 0) = (0, ρ 2, γ 1) from l0.symm)).trans ?_
    refine (zLet_eq (show _ = γ 1 from rfl)).trans ?_
    refine (if_pos w_0).trans ?_
    refine (zLet_eq (show _ = ρ 2 from rfl)).trans ?_
    refine (if_neg wl_0).trans ?_
    refine (zLet_eq (show fn6 [ρ 0] (γ 1) = (0, ρ 3, γ 2) from l2.symm)).trans ?_
    refine (zLet_eq (show _ = γ 2 from rfl)).trans ?_
    refine (zLet_eq (show _ = ρ 3 from rfl)).trans ?_
    refine (if_neg w_1).trans ?_
    refine (zLet_eq c3.symm).trans ?_
    rfl
  exact zGoo_to hD
theorem vn7_3 {S : Nat → zSpc} (hS6 : ∀ x g o v gz, S 6 x g o v gz → sn6 x g o v gz) {a : List Int} {g : rHp} : ∀ (ρ : Nat → Int) (γ : Nat → rHp), zO 2 S a g q7_3 ρ γ → zGl (fun i vs g1 => jn7 a g i vs g1) (sn7 a g) q7_3 ρ γ := by
  intro ρ γ h
  obtain ⟨ha, hg, hr, hf, hm, hc, hl⟩ := h
  have ha : a = [ρ 0, ρ 1] := ha
  subst ha
  subst hg
  obtain ⟨f0, -⟩ := hf
  have f0 : (0 : Int) ≤ -ρ 1 + ρ 0 := f0
  have w_0 : ¬ (0 ≤ ρ 1 + -ρ 0 + (-1)) := by omega
  obtain ⟨m0, m1, -⟩ := hm
  have m0 : γ 0 15 0 35 = ρ 0 := m0
  have m1 : γ 0 15 0 34 = ρ 1 := m1
  obtain ⟨l0, l1, -⟩ := hl
  have l0 : sn6 [ρ 0, ρ 1] (γ 0) 0 (-1) (γ 1) := hS6 _ _ _ _ _ l0
  have l1 : sn6 [ρ 0, ρ 1] (γ 1) 0 (-1) (γ 2) := hS6 _ _ _ _ _ l1
  show sn7 [ρ 0, ρ 1] (γ 0) 0 0 (γ 2)
  have hD : dn7 [] (γ 0) = .inr (0, 0, γ 2) := by
    unfold dn7
    refine (zLet_eq m0).trans ?_
    refine (zLet_eq m1).trans ?_
    refine (zLet_eq (show fn6 [ρ 0] (γ 0) = (0, (-1), γ 1) from l0.symm)).trans ?_
    refine (zLet_eq (show _ = γ 1 from rfl)).trans ?_
    refine (if_neg w_0).trans ?_
    refine (zLet_eq (show fn6 [ρ 0] (γ 1) = (0, (-1), γ 2) from l1.symm)).trans ?_
    refine (zLet_eq (show _ = γ 2 from rfl)).trans ?_
    rfl
  exact zGoo_end hD
theorem vn7a0_0 {S : Nat → zSpc} (hS6 : ∀ x g o v gz, S 6 x g o v gz → sn6 x g o v gz) {a : List Int} {g : rHp} : ∀ (ρ : Nat → Int) (γ : Nat → rHp), jn7 a g 0 (zAg (zNA a7_ 0) ρ) (γ 1) → zO 2 S a g q7a0_0 ρ γ → zGl (fun i vs g1 => jn7 a g i vs g1) (sn7 a g) q7a0_0 ρ γ := by
  intro ρ γ hJ h
  obtain ⟨ha, hg, hr, hf, hm, hc, hl⟩ := h
  have ha : a = [ρ 0, ρ 1] := ha
  subst ha
  subst hg
  have hJ : jn7 [ρ 0, ρ 1] (γ 0) 0 [ρ 0, ρ 1, ρ 2] (γ 1) := hJ
  obtain ⟨-, -, -, r3, -⟩ := hr
  have r3 : (32 : Int) ≤ ρ 3 ∧ ρ 3 ≤ 32 := r3
  obtain ⟨f0, -⟩ := hf
  have f0 : (0 : Int) ≤ -ρ 2 + ρ 1 + (-1) := f0
  obtain ⟨w_0, w_1⟩ : (0 ≤ -ρ 2 + ρ 1 + (-1)) ∧ (ρ 3 = 32) := ⟨by omega, by omega⟩
  obtain ⟨-, m1, m2, -⟩ := hm
  have m1 : γ 0 15 0 34 = ρ 1 := m1
  have m2 : γ 1 15 0 35 = ρ 2 := m2
  obtain ⟨-, c3⟩ := hc
  have c3 : γ 3 = rUp (γ 2) 15 0 35 (ρ 2 + 1) := c3
  obtain ⟨l0, -⟩ := hl
  have l0 : sn6 [ρ 2, ρ 1] (γ 1) 0 (ρ 3) (γ 2) := hS6 _ _ _ _ _ l0
  show jn7 [ρ 0, ρ 1] (γ 0) 0 [ρ 0, ρ 1, ρ 2 + 1] (γ 3)
  have hD : en7 (γ 0) (0, [], γ 1) = .inl (0, [], γ 3) := by
    unfold en7
    refine (if_pos (show (0 : Nat) = 0 by decide)).trans ?_
    refine (zLet_eq (show _ = γ 1 from rfl)).trans ?_
    refine (zLet_eq m1).trans ?_
    refine (zLet_eq m2).trans ?_
    refine (zLet_eq (show fn6 [ρ 2] (γ 1) = (0, ρ 3, γ 2) from l0.symm)).trans ?_
    refine (zLet_eq (show _ = γ 2 from rfl)).trans ?_
    refine (if_pos w_0).trans ?_
    refine (zLet_eq (show _ = ρ 3 from rfl)).trans ?_
    refine (if_pos w_1).trans ?_
    refine (zLet_eq c3.symm).trans ?_
    rfl
  exact zGoo_ato hJ hD
theorem vn7a0_1 {S : Nat → zSpc} (hS6 : ∀ x g o v gz, S 6 x g o v gz → sn6 x g o v gz) {a : List Int} {g : rHp} : ∀ (ρ : Nat → Int) (γ : Nat → rHp), jn7 a g 0 (zAg (zNA a7_ 0) ρ) (γ 1) → zO 2 S a g q7a0_1 ρ γ → zGl (fun i vs g1 => jn7 a g i vs g1) (sn7 a g) q7a0_1 ρ γ := by
  intro ρ γ hJ h
  obtain ⟨ha, hg, hr, hf, hm, hc, hl⟩ := h
  have ha : a = [ρ 0, ρ 1] := ha
  subst ha
  subst hg
  have hJ : jn7 [ρ 0, ρ 1] (γ 0) 0 [ρ 0, ρ 1, ρ 2] (γ 1) := hJ
  obtain ⟨-, -, -, r3, r4, -⟩ := hr
  have r3 : ((-128) : Int) ≤ ρ 3 ∧ ρ 3 ≤ 127 := r3
  have r4 : ((-128) : Int) ≤ ρ 4 ∧ ρ 4 ≤ 127 := r4
  obtain ⟨f0, -⟩ := hf
  have f0 : (0 : Int) ≤ -ρ 2 + ρ 1 + (-1) := f0
  have w_0 : 0 ≤ -ρ 2 + ρ 1 + (-1) := by omega
  obtain ⟨-, m1, m2, -⟩ := hm
  have m1 : γ 0 15 0 34 = ρ 1 := m1
  have m2 : γ 1 15 0 35 = ρ 2 := m2
  obtain ⟨l0, l1, l2, l3, -⟩ := hl
  have l0 : sn6 [ρ 2, ρ 1] (γ 1) 0 (ρ 3) (γ 2) := hS6 _ _ _ _ _ l0
  have l1 : ρ 3 ≠ 32 := l1
  have l2 : sn6 [ρ 2, ρ 1] (γ 2) 0 (ρ 4) (γ 3) := hS6 _ _ _ _ _ l2
  have l3 : ρ 4 ≠ 10 := l3
  obtain ⟨wl_0, wl_1⟩ : (¬ (ρ 3 = 32)) ∧ (ρ 4 ≠ 10) := ⟨by omega, by omega⟩
  show sn7 [ρ 0, ρ 1] (γ 0) 0 0 (γ 3)
  have hD : en7 (γ 0) (0, [], γ 1) = .inr (0, 0, γ 3) := by
    unfold en7
    refine (if_pos (show (0 : Nat) = 0 by decide)).trans ?_
    refine (zLet_eq (show _ = γ 1 from rfl)).trans ?_
    refine (zLet_eq m1).trans ?_
    refine (zLet_eq m2).trans ?_
    refine (zLet_eq (show fn6 [ρ 2] (γ 1) = (0, ρ 3, γ 2) from l0.symm)).trans ?_
    refine (zLet_eq (show _ = γ 2 from rfl)).trans ?_
    refine (if_pos w_0).trans ?_
    refine (zLet_eq (show _ = ρ 3 from rfl)).trans ?_
    refine (if_neg wl_0).trans ?_
    refine (zLet_eq (show fn6 [ρ 2] (γ 2) = (0, ρ 4, γ 3) from l2.symm)).trans ?_
    refine (zLet_eq (show _ = γ 3 from rfl)).trans ?_
    refine (zLet_eq (show _ = ρ 4 from rfl)).trans ?_
    refine (if_pos wl_1).trans ?_
    rfl
  exact zGoo_aend hJ hD
theorem vn7a0_2 {S : Nat → zSpc} (hS6 : ∀ x g o v gz, S 6 x g o v gz → sn6 x g o v gz) {a : List Int} {g : rHp} : ∀ (ρ : Nat → Int) (γ : Nat → rHp), jn7 a g 0 (zAg (zNA a7_ 0) ρ) (γ 1) → zO 2 S a g q7a0_2 ρ γ → zGl (fun i vs g1 => jn7 a g i vs g1) (sn7 a g) q7a0_2 ρ γ := by
  intro ρ γ hJ h
  obtain ⟨ha, hg, hr, hf, hm, hc, hl⟩ := h
  have ha : a = [ρ 0, ρ 1] := ha
  subst ha
  subst hg
  have hJ : jn7 [ρ 0, ρ 1] (γ 0) 0 [ρ 0, ρ 1, ρ 2] (γ 1) := hJ
  obtain ⟨-, -, -, r3, r4, -⟩ := hr
  have r3 : ((-128) : Int) ≤ ρ 3 ∧ ρ 3 ≤ 127 := r3
  have r4 : (10 : Int) ≤ ρ 4 ∧ ρ 4 ≤ 10 := r4
  obtain ⟨f0, -⟩ := hf
  have f0 : (0 : Int) ≤ -ρ 2 + ρ 1 + (-1) := f0
  obtain ⟨w_0, w_1⟩ : (0 ≤ -ρ 2 + ρ 1 + (-1)) ∧ (¬ (ρ 4 ≠ 10)) := ⟨by omega, by omega⟩
  obtain ⟨-, m1, m2, -⟩ := hm
  have m1 : γ 0 15 0 34 = ρ 1 := m1
  have m2 : γ 1 15 0 35 = ρ 2 := m2
  obtain ⟨-, c4⟩ := hc
  have c4 : γ 4 = rUp (γ 3) 15 0 35 (ρ 2 + 1) := c4
  obtain ⟨l0, l1, l2, -⟩ := hl
  have l0 : sn6 [ρ 2, ρ 1] (γ 1) 0 (ρ 3) (γ 2) := hS6 _ _ _ _ _ l0
  have l1 : ρ 3 ≠ 32 := l1
  have l2 : sn6 [ρ 2, ρ 1] (γ 2) 0 (ρ 4) (γ 3) := hS6 _ _ _ _ _ l2
  have wl_0 : ¬ (ρ 3 = 32) := by omega
  show jn7 [ρ 0, ρ 1] (γ 0) 0 [ρ 0, ρ 1, ρ 2 + 1] (γ 4)
  have hD : en7 (γ 0) (0, [], γ 1) = .inl (0, [], γ 4) := by
    unfold en7
    refine (if_pos (show (0 : Nat) = 0 by decide)).trans ?_
    refine (zLet_eq (show _ = γ 1 from rfl)).trans ?_
    refine (zLet_eq m1).trans ?_
    refine (zLet_eq m2).trans ?_
    refine (zLet_eq (show fn6 [ρ 2] (γ 1) = (0, ρ 3, γ 2) from l0.symm)).trans ?_
    refine (zLet_eq (show _ = γ 2 from rfl)).trans ?_
    refine (if_pos w_0).trans ?_
    refine (zLet_eq (show _ = ρ 3 from rfl)).trans ?_
    refine (if_neg wl_0).trans ?_
    refine (zLet_eq (show fn6 [ρ 2] (γ 2) = (0, ρ 4, γ 3) from l2.symm)).trans ?_
    refine (zLet_eq (show _ = γ 3 from rfl)).trans ?_
    refine (zLet_eq (show _ = ρ 4 from rfl)).trans ?_
    refine (if_neg w_1).trans ?_
    refine (zLet_eq c4.symm).trans ?_
    rfl
  exact zGoo_ato hJ hD
theorem vn7a0_3 {S : Nat → zSpc} (hS6 : ∀ x g o v gz, S 6 x g o v gz → sn6 x g o v gz) {a : List Int} {g : rHp} : ∀ (ρ : Nat → Int) (γ : Nat → rHp), jn7 a g 0 (zAg (zNA a7_ 0) ρ) (γ 1) → zO 2 S a g q7a0_3 ρ γ → zGl (fun i vs g1 => jn7 a g i vs g1) (sn7 a g) q7a0_3 ρ γ := by
  intro ρ γ hJ h
  obtain ⟨ha, hg, hr, hf, hm, hc, hl⟩ := h
  have ha : a = [ρ 0, ρ 1] := ha
  subst ha
  subst hg
  have hJ : jn7 [ρ 0, ρ 1] (γ 0) 0 [ρ 0, ρ 1, ρ 2] (γ 1) := hJ
  obtain ⟨f0, -⟩ := hf
  have f0 : (0 : Int) ≤ ρ 2 + -ρ 1 := f0
  have w_0 : ¬ (0 ≤ -ρ 2 + ρ 1 + (-1)) := by omega
  obtain ⟨-, m1, m2, -⟩ := hm
  have m1 : γ 0 15 0 34 = ρ 1 := m1
  have m2 : γ 1 15 0 35 = ρ 2 := m2
  obtain ⟨l0, l1, -⟩ := hl
  have l0 : sn6 [ρ 2, ρ 1] (γ 1) 0 (-1) (γ 2) := hS6 _ _ _ _ _ l0
  have l1 : sn6 [ρ 2, ρ 1] (γ 2) 0 (-1) (γ 3) := hS6 _ _ _ _ _ l1
  show sn7 [ρ 0, ρ 1] (γ 0) 0 0 (γ 3)
  have hD : en7 (γ 0) (0, [], γ 1) = .inr (0, 0, γ 3) := by
    unfold en7
    refine (if_pos (show (0 : Nat) = 0 by decide)).trans ?_
    refine (zLet_eq (show _ = γ 1 from rfl)).trans ?_
    refine (zLet_eq m1).trans ?_
    refine (zLet_eq m2).trans ?_
    refine (zLet_eq (show fn6 [ρ 2] (γ 1) = (0, (-1), γ 2) from l0.symm)).trans ?_
    refine (zLet_eq (show _ = γ 2 from rfl)).trans ?_
    refine (if_neg w_0).trans ?_
    refine (zLet_eq (show fn6 [ρ 2] (γ 2) = (0, (-1), γ 3) from l1.symm)).trans ?_
    refine (zLet_eq (show _ = γ 3 from rfl)).trans ?_
    rfl
  exact zGoo_aend hJ hD
theorem yn7 {S : Nat → zSpc} (hS6 : ∀ x g o v gz, S 6 x g o v gz → sn6 x g o v gz) : ∀ x g o v gz, zSem uW uT w7_.2.2.2.1 w7_.2.2.1.1.length S q7 (fun i => q7a.getD i []) (zNA a7_) x g o v gz → sn7 x g o v gz := by
  intro a g o v gz h
  exact zSem_all (l0 := q7) (las := q7a) (S := S) (J := (fun i vs g1 => jn7 a g i vs g1)) (P := sn7 a g) (fun _ => (show zAll _ [q7_0, q7_1, q7_2, q7_3] from (zAll_c (vn7_0 hS6) (zAll_c (vn7_1 hS6) (zAll_c (vn7_2 hS6) (zAll_c (vn7_3 hS6) zAll_n)))))) (fun _ => (show zAllI _ 0 [q7a0] from ⟨(show zAll _ [q7a0_0, q7a0_1, q7a0_2, q7a0_3] from (zAll_c (vn7a0_0 hS6) (zAll_c (vn7a0_1 hS6) (zAll_c (vn7a0_2 hS6) (zAll_c (vn7a0_3 hS6) zAll_n))))), trivial⟩)) h
theorem vn8_0 {S : Nat → zSpc}  {a : List Int} {g : rHp} : ∀ (ρ : Nat → Int) (γ : Nat → rHp), zO 3 S a g q8_0 ρ γ → zGl (fun _ _ _ => True) (sn8 a g) q8_0 ρ γ := by
  intro ρ γ h
  obtain ⟨ha, hg, hr, hf, hm, hc, hl⟩ := h
  have ha : a = [ρ 0, ρ 1, ρ 2] := ha
  subst ha
  subst hg
  obtain ⟨f0, -⟩ := hf
  have f0 : (0 : Int) ≤ -ρ 1 + ρ 0 := f0
  have w_0 : ρ 0 ≥ ρ 1 := by omega
  obtain ⟨m0, -⟩ := hm
  have m0 : γ 0 15 0 34 = ρ 1 := m0
  obtain ⟨-, c1⟩ := hc
  have c1 : γ 1 = rUp (γ 0) 15 0 36 (ρ 1) := c1
  show sn8 [ρ 0, ρ 1, ρ 2] (γ 0) 0 0 (γ 1)
  refine Eq.symm ?_
  show fn8 [ρ 0] (γ 0) = _
  unfold fn8
  refine (zLet_eq (show _ = ρ 0 from rfl)).trans ?_
  refine (zLet_eq m0).trans ?_
  refine (if_pos w_0).trans ?_
  refine (zLet_eq c1.symm).trans ?_
  rfl
theorem vn8_1 {S : Nat → zSpc}  {a : List Int} {g : rHp} : ∀ (ρ : Nat → Int) (γ : Nat → rHp), zO 3 S a g q8_1 ρ γ → zGl (fun _ _ _ => True) (sn8 a g) q8_1 ρ γ := by
  intro ρ γ h
  obtain ⟨ha, hg, hr, hf, hm, hc, hl⟩ := h
  have ha : a = [ρ 0, ρ 1, ρ 2] := ha
  subst ha
  subst hg
  obtain ⟨f0, -⟩ := hf
  have f0 : (0 : Int) ≤ ρ 1 + -ρ 0 + (-1) := f0
  have w_0 : ¬ (ρ 0 ≥ ρ 1) := by omega
  obtain ⟨m0, -⟩ := hm
  have m0 : γ 0 15 0 34 = ρ 1 := m0
  obtain ⟨-, c1⟩ := hc
  have c1 : γ 1 = rUp (γ 0) 15 0 36 (ρ 0) := c1
  show sn8 [ρ 0, ρ 1, ρ 2] (γ 0) 0 0 (γ 1)
  refine Eq.symm ?_
  show fn8 [ρ 0] (γ 0) = _
  unfold fn8
  refine (zLet_eq (show _ = ρ 0 from rfl)).trans ?_
  refine (zLet_eq m0).trans ?_
  refine (if_neg w_0).trans ?_
  refine (zLet_eq c1.symm).trans ?_
  rfl
theorem yn8 {S : Nat → zSpc}  : ∀ x g o v gz, zSem uW uT w8_.2.2.2.1 w8_.2.2.1.1.length S q8 (fun i => q8a.getD i []) (zNA a8_) x g o v gz → sn8 x g o v gz := by
  intro a g o v gz h
  exact zSem_all (l0 := q8) (las := q8a) (S := S) (J := (fun _ _ _ => True)) (P := sn8 a g) (fun _ => (show zAll _ [q8_0, q8_1] from (zAll_c (vn8_0 ) (zAll_c (vn8_1 ) zAll_n)))) (fun _ => (show zAllI _ 0 [] from trivial)) h
theorem vn9_0 {S : Nat → zSpc}  {a : List Int} {g : rHp} : ∀ (ρ : Nat → Int) (γ : Nat → rHp), zO 1 S a g q9_0 ρ γ → zGl (fun _ _ _ => True) (sn9 a g) q9_0 ρ γ := by
  intro ρ γ h
  obtain ⟨ha, hg, hr, hf, hm, hc, hl⟩ := h
  have ha : a = [ρ 0] := ha
  subst ha
  subst hg
  obtain ⟨r0, -⟩ := hr
  have r0 : ((-2147483648) : Int) ≤ ρ 0 ∧ ρ 0 ≤ 96 := r0
  have w_0 : ρ 0 < 97 := by omega
  show sn9 [ρ 0] (γ 0) 0 0 (γ 0)
  refine Eq.symm ?_
  show fn9 [ρ 0] (γ 0) = _
  unfold fn9
  refine (zLet_eq (show _ = ρ 0 from rfl)).trans ?_
  refine (if_pos w_0).trans ?_
  rfl
theorem vn9_1 {S : Nat → zSpc}  {a : List Int} {g : rHp} : ∀ (ρ : Nat → Int) (γ : Nat → rHp), zO 1 S a g q9_1 ρ γ → zGl (fun _ _ _ => True) (sn9 a g) q9_1 ρ γ := by
  intro ρ γ h
  obtain ⟨ha, hg, hr, hf, hm, hc, hl⟩ := h
  have ha : a = [ρ 0] := ha
  subst ha
  subst hg
  obtain ⟨r0, -⟩ := hr
  have r0 : (123 : Int) ≤ ρ 0 ∧ ρ 0 ≤ 2147483647 := r0
  obtain ⟨w_0, w_1⟩ : (¬ (ρ 0 < 97)) ∧ (ρ 0 > 122) := ⟨by omega, by omega⟩
  show sn9 [ρ 0] (γ 0) 0 0 (γ 0)
  refine Eq.symm ?_
  show fn9 [ρ 0] (γ 0) = _
  unfold fn9
  refine (zLet_eq (show _ = ρ 0 from rfl)).trans ?_
  refine (if_neg w_0).trans ?_
  refine (if_pos w_1).trans ?_
  rfl
theorem vn9_2 {S : Nat → zSpc}  {a : List Int} {g : rHp} : ∀ (ρ : Nat → Int) (γ : Nat → rHp), zO 1 S a g q9_2 ρ γ → zGl (fun _ _ _ => True) (sn9 a g) q9_2 ρ γ := by
  intro ρ γ h
  obtain ⟨ha, hg, hr, hf, hm, hc, hl⟩ := h
  have ha : a = [ρ 0] := ha
  subst ha
  subst hg
  obtain ⟨r0, -⟩ := hr
  have r0 : (97 : Int) ≤ ρ 0 ∧ ρ 0 ≤ 122 := r0
  obtain ⟨w_0, w_1⟩ : (¬ (ρ 0 < 97)) ∧ (¬ (ρ 0 > 122)) := ⟨by omega, by omega⟩
  show sn9 [ρ 0] (γ 0) 0 1 (γ 0)
  refine Eq.symm ?_
  show fn9 [ρ 0] (γ 0) = _
  unfold fn9
  refine (zLet_eq (show _ = ρ 0 from rfl)).trans ?_
  refine (if_neg w_0).trans ?_
  refine (if_neg w_1).trans ?_
  rfl
theorem yn9 {S : Nat → zSpc}  : ∀ x g o v gz, zSem uW uT w9_.2.2.2.1 w9_.2.2.1.1.length S q9 (fun i => q9a.getD i []) (zNA a9_) x g o v gz → sn9 x g o v gz := by
  intro a g o v gz h
  exact zSem_all (l0 := q9) (las := q9a) (S := S) (J := (fun _ _ _ => True)) (P := sn9 a g) (fun _ => (show zAll _ [q9_0, q9_1, q9_2] from (zAll_c (vn9_0 ) (zAll_c (vn9_1 ) (zAll_c (vn9_2 ) zAll_n))))) (fun _ => (show zAllI _ 0 [] from trivial)) h
theorem vn10_0 {S : Nat → zSpc}  {a : List Int} {g : rHp} : ∀ (ρ : Nat → Int) (γ : Nat → rHp), zO 1 S a g q10_0 ρ γ → zGl (fun _ _ _ => True) (sn10 a g) q10_0 ρ γ := by
  intro ρ γ h
  obtain ⟨ha, hg, hr, hf, hm, hc, hl⟩ := h
  have ha : a = [ρ 0] := ha
  subst ha
  subst hg
  obtain ⟨r0, -⟩ := hr
  have r0 : ((-2147483648) : Int) ≤ ρ 0 ∧ ρ 0 ≤ 64 := r0
  have w_0 : ρ 0 < 65 := by omega
  show sn10 [ρ 0] (γ 0) 0 0 (γ 0)
  refine Eq.symm ?_
  show fn10 [ρ 0] (γ 0) = _
  unfold fn10
  refine (zLet_eq (show _ = ρ 0 from rfl)).trans ?_
  refine (if_pos w_0).trans ?_
  rfl
theorem vn10_1 {S : Nat → zSpc}  {a : List Int} {g : rHp} : ∀ (ρ : Nat → Int) (γ : Nat → rHp), zO 1 S a g q10_1 ρ γ → zGl (fun _ _ _ => True) (sn10 a g) q10_1 ρ γ := by
  intro ρ γ h
  obtain ⟨ha, hg, hr, hf, hm, hc, hl⟩ := h
  have ha : a = [ρ 0] := ha
  subst ha
  subst hg
  obtain ⟨r0, -⟩ := hr
  have r0 : (91 : Int) ≤ ρ 0 ∧ ρ 0 ≤ 2147483647 := r0
  obtain ⟨w_0, w_1⟩ : (¬ (ρ 0 < 65)) ∧ (ρ 0 > 90) := ⟨by omega, by omega⟩
  show sn10 [ρ 0] (γ 0) 0 0 (γ 0)
  refine Eq.symm ?_
  show fn10 [ρ 0] (γ 0) = _
  unfold fn10
  refine (zLet_eq (show _ = ρ 0 from rfl)).trans ?_
  refine (if_neg w_0).trans ?_
  refine (if_pos w_1).trans ?_
  rfl
theorem vn10_2 {S : Nat → zSpc}  {a : List Int} {g : rHp} : ∀ (ρ : Nat → Int) (γ : Nat → rHp), zO 1 S a g q10_2 ρ γ → zGl (fun _ _ _ => True) (sn10 a g) q10_2 ρ γ := by
  intro ρ γ h
  obtain ⟨ha, hg, hr, hf, hm, hc, hl⟩ := h
  have ha : a = [ρ 0] := ha
  subst ha
  subst hg
  obtain ⟨r0, -⟩ := hr
  have r0 : (65 : Int) ≤ ρ 0 ∧ ρ 0 ≤ 90 := r0
  obtain ⟨w_0, w_1⟩ : (¬ (ρ 0 < 65)) ∧ (¬ (ρ 0 > 90)) := ⟨by omega, by omega⟩
  show sn10 [ρ 0] (γ 0) 0 1 (γ 0)
  refine Eq.symm ?_
  show fn10 [ρ 0] (γ 0) = _
  unfold fn10
  refine (zLet_eq (show _ = ρ 0 from rfl)).trans ?_
  refine (if_neg w_0).trans ?_
  refine (if_neg w_1).trans ?_
  rfl
theorem yn10 {S : Nat → zSpc}  : ∀ x g o v gz, zSem uW uT w10_.2.2.2.1 w10_.2.2.1.1.length S q10 (fun i => q10a.getD i []) (zNA a10_) x g o v gz → sn10 x g o v gz := by
  intro a g o v gz h
  exact zSem_all (l0 := q10) (las := q10a) (S := S) (J := (fun _ _ _ => True)) (P := sn10 a g) (fun _ => (show zAll _ [q10_0, q10_1, q10_2] from (zAll_c (vn10_0 ) (zAll_c (vn10_1 ) (zAll_c (vn10_2 ) zAll_n))))) (fun _ => (show zAllI _ 0 [] from trivial)) h
theorem vn11_0 {S : Nat → zSpc}  {a : List Int} {g : rHp} : ∀ (ρ : Nat → Int) (γ : Nat → rHp), zO 1 S a g q11_0 ρ γ → zGl (fun _ _ _ => True) (sn11 a g) q11_0 ρ γ := by
  intro ρ γ h
  obtain ⟨ha, hg, hr, hf, hm, hc, hl⟩ := h
  have ha : a = [ρ 0] := ha
  subst ha
  subst hg
  obtain ⟨r0, -⟩ := hr
  have r0 : ((-2147483648) : Int) ≤ ρ 0 ∧ ρ 0 ≤ 47 := r0
  have w_0 : ρ 0 < 48 := by omega
  show sn11 [ρ 0] (γ 0) 0 0 (γ 0)
  refine Eq.symm ?_
  show fn11 [ρ 0] (γ 0) = _
  unfold fn11
  refine (zLet_eq (show _ = ρ 0 from rfl)).trans ?_
  refine (if_pos w_0).trans ?_
  rfl
theorem vn11_1 {S : Nat → zSpc}  {a : List Int} {g : rHp} : ∀ (ρ : Nat → Int) (γ : Nat → rHp), zO 1 S a g q11_1 ρ γ → zGl (fun _ _ _ => True) (sn11 a g) q11_1 ρ γ := by
  intro ρ γ h
  obtain ⟨ha, hg, hr, hf, hm, hc, hl⟩ := h
  have ha : a = [ρ 0] := ha
  subst ha
  subst hg
  obtain ⟨r0, -⟩ := hr
  have r0 : (58 : Int) ≤ ρ 0 ∧ ρ 0 ≤ 2147483647 := r0
  obtain ⟨w_0, w_1⟩ : (¬ (ρ 0 < 48)) ∧ (ρ 0 > 57) := ⟨by omega, by omega⟩
  show sn11 [ρ 0] (γ 0) 0 0 (γ 0)
  refine Eq.symm ?_
  show fn11 [ρ 0] (γ 0) = _
  unfold fn11
  refine (zLet_eq (show _ = ρ 0 from rfl)).trans ?_
  refine (if_neg w_0).trans ?_
  refine (if_pos w_1).trans ?_
  rfl
theorem vn11_2 {S : Nat → zSpc}  {a : List Int} {g : rHp} : ∀ (ρ : Nat → Int) (γ : Nat → rHp), zO 1 S a g q11_2 ρ γ → zGl (fun _ _ _ => True) (sn11 a g) q11_2 ρ γ := by
  intro ρ γ h
  obtain ⟨ha, hg, hr, hf, hm, hc, hl⟩ := h
  have ha : a = [ρ 0] := ha
  subst ha
  subst hg
  obtain ⟨r0, -⟩ := hr
  have r0 : (48 : Int) ≤ ρ 0 ∧ ρ 0 ≤ 57 := r0
  obtain ⟨w_0, w_1⟩ : (¬ (ρ 0 < 48)) ∧ (¬ (ρ 0 > 57)) := ⟨by omega, by omega⟩
  show sn11 [ρ 0] (γ 0) 0 1 (γ 0)
  refine Eq.symm ?_
  show fn11 [ρ 0] (γ 0) = _
  unfold fn11
  refine (zLet_eq (show _ = ρ 0 from rfl)).trans ?_
  refine (if_neg w_0).trans ?_
  refine (if_neg w_1).trans ?_
  rfl
theorem yn11 {S : Nat → zSpc}  : ∀ x g o v gz, zSem uW uT w11_.2.2.2.1 w11_.2.2.1.1.length S q11 (fun i => q11a.getD i []) (zNA a11_) x g o v gz → sn11 x g o v gz := by
  intro a g o v gz h
  exact zSem_all (l0 := q11) (las := q11a) (S := S) (J := (fun _ _ _ => True)) (P := sn11 a g) (fun _ => (show zAll _ [q11_0, q11_1, q11_2] from (zAll_c (vn11_0 ) (zAll_c (vn11_1 ) (zAll_c (vn11_2 ) zAll_n))))) (fun _ => (show zAllI _ 0 [] from trivial)) h
theorem vn12_0 {S : Nat → zSpc} (hS6 : ∀ x g o v gz, S 6 x g o v gz → sn6 x g o v gz) (hS8 : ∀ x g o v gz, S 8 x g o v gz → sn8 x g o v gz) (hS9 : ∀ x g o v gz, S 9 x g o v gz → sn9 x g o v gz) (hS11 : ∀ x g o v gz, S 11 x g o v gz → sn11 x g o v gz) {a : List Int} {g : rHp} : ∀ (ρ : Nat → Int) (γ : Nat → rHp), zO 5 S a g q12_0 ρ γ → zGl (fun i vs g1 => jn12 a g i vs g1) (sn12 a g) q12_0 ρ γ := by
  intro ρ γ h
  obtain ⟨ha, hg, hr, hf, hm, hc, hl⟩ := h
  have ha : a = [ρ 0, ρ 1, ρ 2, ρ 3, ρ 4] := ha
  subst ha
  subst hg
  obtain ⟨m0, -⟩ := hm
  have m0 : γ 0 15 0 35 = ρ 0 := m0
  obtain ⟨-, c1⟩ := hc
  have c1 : γ 1 = rUp (γ 0) 15 0 37 (ρ 0) := c1
  show jn12 [ρ 0, ρ 1, ρ 2, ρ 3, ρ 4] (γ 0) 0 [ρ 0, ρ 1, ρ 2, ρ 3, ρ 4, ρ 0 + 1] (γ 1)
  have hD : dn12 [] (γ 0) = .inl (0, [ρ 0 + 1], γ 1) := by
    unfold dn12
    refine (zLet_eq m0).trans ?_
    refine (zLet_eq c1.symm).trans ?_
    rfl
  exact zGoo_to hD
theorem vn12a0_0 {S : Nat → zSpc} (hS6 : ∀ x g o v gz, S 6 x g o v gz → sn6 x g o v gz) (hS8 : ∀ x g o v gz, S 8 x g o v gz → sn8 x g o v gz) (hS9 : ∀ x g o v gz, S 9 x g o v gz → sn9 x g o v gz) (hS11 : ∀ x g o v gz, S 11 x g o v gz → sn11 x g o v gz) {a : List Int} {g : rHp} : ∀ (ρ : Nat → Int) (γ : Nat → rHp), jn12 a g 0 (zAg (zNA a12_ 0) ρ) (γ 1) → zO 5 S a g q12a0_0 ρ γ → zGl (fun i vs g1 => jn12 a g i vs g1) (sn12 a g) q12a0_0 ρ γ := by
  intro ρ γ hJ h
  obtain ⟨ha, hg, hr, hf, hm, hc, hl⟩ := h
  have ha : a = [ρ 0, ρ 1, ρ 2, ρ 3, ρ 4] := ha
  subst ha
  subst hg
  have hJ : jn12 [ρ 0, ρ 1, ρ 2, ρ 3, ρ 4] (γ 0) 0 [ρ 0, ρ 1, ρ 2, ρ 3, ρ 4, ρ 5] (γ 1) := hJ
  obtain ⟨-, -, -, -, -, -, -, -, r8, -⟩ := hr
  have r8 : ((-128) : Int) ≤ ρ 8 ∧ ρ 8 ≤ 127 := r8
  obtain ⟨f0, f1, -⟩ := hf
  have f0 : (0 : Int) ≤ -ρ 5 + ρ 0 + 12 := f0
  have f1 : (0 : Int) ≤ -ρ 5 + ρ 1 + (-1) := f1
  obtain ⟨w_0, w_1⟩ : (0 ≤ -ρ 5 + ρ 1 + (-1)) ∧ (ρ 5 + -ρ 0 ≤ 12) := ⟨by omega, by omega⟩
  obtain ⟨m0, m1, -⟩ := hm
  have m0 : γ 0 15 0 35 = ρ 0 := m0
  have m1 : γ 0 15 0 34 = ρ 1 := m1
  obtain ⟨⟨-, c7⟩, c8⟩ := hc
  have c7 : γ 7 = rUp (γ 6) 15 0 38 (ρ 5 + -ρ 0) := c7
  have c8 : γ 8 = rUp (γ 7) 15 0 35 (ρ 5) := c8
  obtain ⟨l0, l1, l2, l3, l4, l5, -⟩ := hl
  have l0 : sn6 [ρ 5, ρ 1] (γ 1) 0 (ρ 6) (γ 2) := hS6 _ _ _ _ _ l0
  have l1 : sn9 [ρ 6] (γ 2) 0 0 (γ 3) := hS9 _ _ _ _ _ l1
  have l2 : sn6 [ρ 5, ρ 1] (γ 3) 0 (ρ 7) (γ 4) := hS6 _ _ _ _ _ l2
  have l3 : sn11 [ρ 7] (γ 4) 0 0 (γ 5) := hS11 _ _ _ _ _ l3
  have l4 : sn6 [ρ 5, ρ 1] (γ 5) 0 (ρ 8) (γ 6) := hS6 _ _ _ _ _ l4
  have l5 : ρ 8 ≠ 95 := l5
  have wl_0 : ρ 8 ≠ 95 := by omega
  show sn12 [ρ 0, ρ 1, ρ 2, ρ 3, ρ 4] (γ 0) 0 1 (γ 8)
  have hD : en12 (γ 0) (0, [ρ 5], γ 1) = .inr (0, 1, γ 8) := by
    unfold en12
    refine (if_pos (show (0 : Nat) = 0 by decide)).trans ?_
    refine (zLet_eq (show _ = γ 1 from rfl)).trans ?_
    refine (zLet_eq (show _ = ρ 5 from rfl)).trans ?_
    refine (zLet_eq m0).trans ?_
    refine (zLet_eq m1).trans ?_
    refine (zLet_eq (show fn6 [ρ 5] (γ 1) = (0, ρ 6, γ 2) from l0.symm)).trans ?_
    refine (zLet_eq (show _ = γ 2 from rfl)).trans ?_
    refine (if_pos w_0).trans ?_
    refine (zLet_eq (show _ = ρ 6 from rfl)).trans ?_
    refine (zLet_eq (show fn9 [ρ 6] (γ 2) = (0, 0, γ 3) from l1.symm)).trans ?_
    refine (zLet_eq (show _ = γ 3 from rfl)).trans ?_
    refine (if_neg zQ0_).trans ?_
    refine (zLet_eq (show fn6 [ρ 5] (γ 3) = (0, ρ 7, γ 4) from l2.symm)).trans ?_
    refine (zLet_eq (show _ = γ 4 from rfl)).trans ?_
    refine (zLet_eq (show _ = ρ 7 from rfl)).trans ?_
    refine (zLet_eq (show fn11 [ρ 7] (γ 4) = (0, 0, γ 5) from l3.symm)).trans ?_
    refine (zLet_eq (show _ = γ 5 from rfl)).trans ?_
    refine (if_neg zQ0_).trans ?_
    refine (zLet_eq (show fn6 [ρ 5] (γ 5) = (0, ρ 8, γ 6) from l4.symm)).trans ?_
    refine (zLet_eq (show _ = γ 6 from rfl)).trans ?_
    refine (zLet_eq (show _ = ρ 8 from rfl)).trans ?_
    refine (if_pos wl_0).trans ?_
    refine (zLet_eq c7.symm).trans ?_
    refine (if_pos w_1).trans ?_
    refine (zLet_eq c8.symm).trans ?_
    rfl
  exact zGoo_aend hJ hD
theorem vn12a0_1 {S : Nat → zSpc} (hS6 : ∀ x g o v gz, S 6 x g o v gz → sn6 x g o v gz) (hS8 : ∀ x g o v gz, S 8 x g o v gz → sn8 x g o v gz) (hS9 : ∀ x g o v gz, S 9 x g o v gz → sn9 x g o v gz) (hS11 : ∀ x g o v gz, S 11 x g o v gz → sn11 x g o v gz) {a : List Int} {g : rHp} : ∀ (ρ : Nat → Int) (γ : Nat → rHp), jn12 a g 0 (zAg (zNA a12_ 0) ρ) (γ 1) → zO 5 S a g q12a0_1 ρ γ → zGl (fun i vs g1 => jn12 a g i vs g1) (sn12 a g) q12a0_1 ρ γ := by
  intro ρ γ hJ h
  obtain ⟨ha, hg, hr, hf, hm, hc, hl⟩ := h
  have ha : a = [ρ 0, ρ 1, ρ 2, ρ 3, ρ 4] := ha
  subst ha
  subst hg
  have hJ : jn12 [ρ 0, ρ 1, ρ 2, ρ 3, ρ 4] (γ 0) 0 [ρ 0, ρ 1, ρ 2, ρ 3, ρ 4, ρ 5] (γ 1) := hJ
  obtain ⟨-, -, -, -, -, -, -, -, r8, -⟩ := hr
  have r8 : ((-128) : Int) ≤ ρ 8 ∧ ρ 8 ≤ 127 := r8
  obtain ⟨-, -, f2, f3, -⟩ := hf
  have f2 : (0 : Int) ≤ ρ 5 + -ρ 0 + (-13) := f2
  have f3 : (0 : Int) ≤ -ρ 5 + ρ 1 + (-1) := f3
  obtain ⟨w_0, w_1⟩ : (0 ≤ -ρ 5 + ρ 1 + (-1)) ∧ (¬ (ρ 5 + -ρ 0 ≤ 12)) := ⟨by omega, by omega⟩
  obtain ⟨m0, m1, -⟩ := hm
  have m0 : γ 0 15 0 35 = ρ 0 := m0
  have m1 : γ 0 15 0 34 = ρ 1 := m1
  obtain ⟨⟨-, c7⟩, -⟩ := hc
  have c7 : γ 7 = rUp (γ 6) 15 0 38 (ρ 5 + -ρ 0) := c7
  obtain ⟨l0, l1, l2, l3, l4, l5, l6, -⟩ := hl
  have l0 : sn6 [ρ 5, ρ 1] (γ 1) 0 (ρ 6) (γ 2) := hS6 _ _ _ _ _ l0
  have l1 : sn9 [ρ 6] (γ 2) 0 0 (γ 3) := hS9 _ _ _ _ _ l1
  have l2 : sn6 [ρ 5, ρ 1] (γ 3) 0 (ρ 7) (γ 4) := hS6 _ _ _ _ _ l2
  have l3 : sn11 [ρ 7] (γ 4) 0 0 (γ 5) := hS11 _ _ _ _ _ l3
  have l4 : sn6 [ρ 5, ρ 1] (γ 5) 0 (ρ 8) (γ 6) := hS6 _ _ _ _ _ l4
  have l5 : ρ 8 ≠ 95 := l5
  have l6 : sn8 [ρ 0, ρ 1, ρ 3] (γ 7) 0 0 (γ 8) := hS8 _ _ _ _ _ l6
  have wl_0 : ρ 8 ≠ 95 := by omega
  show sn12 [ρ 0, ρ 1, ρ 2, ρ 3, ρ 4] (γ 0) 0 0 (γ 8)
  have hD : en12 (γ 0) (0, [ρ 5], γ 1) = .inr (0, 0, γ 8) := by
    unfold en12
    refine (if_pos (show (0 : Nat) = 0 by decide)).trans ?_
    refine (zLet_eq (show _ = γ 1 from rfl)).trans ?_
    refine (zLet_eq (show _ = ρ 5 from rfl)).trans ?_
    refine (zLet_eq m0).trans ?_
    refine (zLet_eq m1).trans ?_
    refine (zLet_eq (show fn6 [ρ 5] (γ 1) = (0, ρ 6, γ 2) from l0.symm)).trans ?_
    refine (zLet_eq (show _ = γ 2 from rfl)).trans ?_
    refine (if_pos w_0).trans ?_
    refine (zLet_eq (show _ = ρ 6 from rfl)).trans ?_
    refine (zLet_eq (show fn9 [ρ 6] (γ 2) = (0, 0, γ 3) from l1.symm)).trans ?_
    refine (zLet_eq (show _ = γ 3 from rfl)).trans ?_
    refine (if_neg zQ0_).trans ?_
    refine (zLet_eq (show fn6 [ρ 5] (γ 3) = (0, ρ 7, γ 4) from l2.symm)).trans ?_
    refine (zLet_eq (show _ = γ 4 from rfl)).trans ?_
    refine (zLet_eq (show _ = ρ 7 from rfl)).trans ?_
    refine (zLet_eq (show fn11 [ρ 7] (γ 4) = (0, 0, γ 5) from l3.symm)).trans ?_
    refine (zLet_eq (show _ = γ 5 from rfl)).trans ?_
    refine (if_neg zQ0_).trans ?_
    refine (zLet_eq (show fn6 [ρ 5] (γ 5) = (0, ρ 8, γ 6) from l4.symm)).trans ?_
    refine (zLet_eq (show _ = γ 6 from rfl)).trans ?_
    refine (zLet_eq (show _ = ρ 8 from rfl)).trans ?_
    refine (if_pos wl_0).trans ?_
    refine (zLet_eq c7.symm).trans ?_
    refine (if_neg w_1).trans ?_
    refine (zLet_eq (show fn8 [ρ 0] (γ 7) = (0, 0, γ 8) from l6.symm)).trans ?_
    refine (zLet_eq (show _ = γ 8 from rfl)).trans ?_
    rfl
  exact zGoo_aend hJ hD
theorem vn12a0_2 {S : Nat → zSpc} (hS6 : ∀ x g o v gz, S 6 x g o v gz → sn6 x g o v gz) (hS8 : ∀ x g o v gz, S 8 x g o v gz → sn8 x g o v gz) (hS9 : ∀ x g o v gz, S 9 x g o v gz → sn9 x g o v gz) (hS11 : ∀ x g o v gz, S 11 x g o v gz → sn11 x g o v gz) {a : List Int} {g : rHp} : ∀ (ρ : Nat → Int) (γ : Nat → rHp), jn12 a g 0 (zAg (zNA a12_ 0) ρ) (γ 1) → zO 5 S a g q12a0_2 ρ γ → zGl (fun i vs g1 => jn12 a g i vs g1) (sn12 a g) q12a0_2 ρ γ := by
  intro ρ γ hJ h
  obtain ⟨ha, hg, hr, hf, hm, hc, hl⟩ := h
  have ha : a = [ρ 0, ρ 1, ρ 2, ρ 3, ρ 4] := ha
  subst ha
  subst hg
  have hJ : jn12 [ρ 0, ρ 1, ρ 2, ρ 3, ρ 4] (γ 0) 0 [ρ 0, ρ 1, ρ 2, ρ 3, ρ 4, ρ 5] (γ 1) := hJ
  obtain ⟨-, -, -, -, -, -, -, -, r8, -⟩ := hr
  have r8 : (95 : Int) ≤ ρ 8 ∧ ρ 8 ≤ 95 := r8
  obtain ⟨f0, -⟩ := hf
  have f0 : (0 : Int) ≤ -ρ 5 + ρ 1 + (-1) := f0
  obtain ⟨w_0, w_1⟩ : (0 ≤ -ρ 5 + ρ 1 + (-1)) ∧ (¬ (ρ 8 ≠ 95)) := ⟨by omega, by omega⟩
  obtain ⟨m0, m1, -⟩ := hm
  have m0 : γ 0 15 0 35 = ρ 0 := m0
  have m1 : γ 0 15 0 34 = ρ 1 := m1
  obtain ⟨l0, l1, l2, l3, l4, -⟩ := hl
  have l0 : sn6 [ρ 5, ρ 1] (γ 1) 0 (ρ 6) (γ 2) := hS6 _ _ _ _ _ l0
  have l1 : sn9 [ρ 6] (γ 2) 0 0 (γ 3) := hS9 _ _ _ _ _ l1
  have l2 : sn6 [ρ 5, ρ 1] (γ 3) 0 (ρ 7) (γ 4) := hS6 _ _ _ _ _ l2
  have l3 : sn11 [ρ 7] (γ 4) 0 0 (γ 5) := hS11 _ _ _ _ _ l3
  have l4 : sn6 [ρ 5, ρ 1] (γ 5) 0 (ρ 8) (γ 6) := hS6 _ _ _ _ _ l4
  show jn12 [ρ 0, ρ 1, ρ 2, ρ 3, ρ 4] (γ 0) 0 [ρ 0, ρ 1, ρ 2, ρ 3, ρ 4, ρ 5 + 1] (γ 6)
  have hD : en12 (γ 0) (0, [ρ 5], γ 1) = .inl (0, [ρ 5 + 1], γ 6) := by
    unfold en12
    refine (if_pos (show (0 : Nat) = 0 by decide)).trans ?_
    refine (zLet_eq (show _ = γ 1 from rfl)).trans ?_
    refine (zLet_eq (show _ = ρ 5 from rfl)).trans ?_
    refine (zLet_eq m0).trans ?_
    refine (zLet_eq m1).trans ?_
    refine (zLet_eq (show fn6 [ρ 5] (γ 1) = (0, ρ 6, γ 2) from l0.symm)).trans ?_
    refine (zLet_eq (show _ = γ 2 from rfl)).trans ?_
    refine (if_pos w_0).trans ?_
    refine (zLet_eq (show _ = ρ 6 from rfl)).trans ?_
    refine (zLet_eq (show fn9 [ρ 6] (γ 2) = (0, 0, γ 3) from l1.symm)).trans ?_
    refine (zLet_eq (show _ = γ 3 from rfl)).trans ?_
    refine (if_neg zQ0_).trans ?_
    refine (zLet_eq (show fn6 [ρ 5] (γ 3) = (0, ρ 7, γ 4) from l2.symm)).trans ?_
    refine (zLet_eq (show _ = γ 4 from rfl)).trans ?_
    refine (zLet_eq (show _ = ρ 7 from rfl)).trans ?_
    refine (zLet_eq (show fn11 [ρ 7] (γ 4) = (0, 0, γ 5) from l3.symm)).trans ?_
    refine (zLet_eq (show _ = γ 5 from rfl)).trans ?_
    refine (if_neg zQ0_).trans ?_
    refine (zLet_eq (show fn6 [ρ 5] (γ 5) = (0, ρ 8, γ 6) from l4.symm)).trans ?_
    refine (zLet_eq (show _ = γ 6 from rfl)).trans ?_
    refine (zLet_eq (show _ = ρ 8 from rfl)).trans ?_
    refine (if_neg w_1).trans ?_
    rfl
  exact zGoo_ato hJ hD
theorem vn12a0_3 {S : Nat → zSpc} (hS6 : ∀ x g o v gz, S 6 x g o v gz → sn6 x g o v gz) (hS8 : ∀ x g o v gz, S 8 x g o v gz → sn8 x g o v gz) (hS9 : ∀ x g o v gz, S 9 x g o v gz → sn9 x g o v gz) (hS11 : ∀ x g o v gz, S 11 x g o v gz → sn11 x g o v gz) {a : List Int} {g : rHp} : ∀ (ρ : Nat → Int) (γ : Nat → rHp), jn12 a g 0 (zAg (zNA a12_ 0) ρ) (γ 1) → zO 5 S a g q12a0_3 ρ γ → zGl (fun i vs g1 => jn12 a g i vs g1) (sn12 a g) q12a0_3 ρ γ := by
  intro ρ γ hJ h
  obtain ⟨ha, hg, hr, hf, hm, hc, hl⟩ := h
  have ha : a = [ρ 0, ρ 1, ρ 2, ρ 3, ρ 4] := ha
  subst ha
  subst hg
  have hJ : jn12 [ρ 0, ρ 1, ρ 2, ρ 3, ρ 4] (γ 0) 0 [ρ 0, ρ 1, ρ 2, ρ 3, ρ 4, ρ 5] (γ 1) := hJ
  obtain ⟨f0, -⟩ := hf
  have f0 : (0 : Int) ≤ -ρ 5 + ρ 1 + (-1) := f0
  have w_0 : 0 ≤ -ρ 5 + ρ 1 + (-1) := by omega
  obtain ⟨m0, m1, -⟩ := hm
  have m0 : γ 0 15 0 35 = ρ 0 := m0
  have m1 : γ 0 15 0 34 = ρ 1 := m1
  obtain ⟨l0, l1, l2, l3, -⟩ := hl
  have l0 : sn6 [ρ 5, ρ 1] (γ 1) 0 (ρ 6) (γ 2) := hS6 _ _ _ _ _ l0
  have l1 : sn9 [ρ 6] (γ 2) 0 0 (γ 3) := hS9 _ _ _ _ _ l1
  have l2 : sn6 [ρ 5, ρ 1] (γ 3) 0 (ρ 7) (γ 4) := hS6 _ _ _ _ _ l2
  have l3 : sn11 [ρ 7] (γ 4) 0 1 (γ 5) := hS11 _ _ _ _ _ l3
  show jn12 [ρ 0, ρ 1, ρ 2, ρ 3, ρ 4] (γ 0) 0 [ρ 0, ρ 1, ρ 2, ρ 3, ρ 4, ρ 5 + 1] (γ 5)
  have hD : en12 (γ 0) (0, [ρ 5], γ 1) = .inl (0, [ρ 5 + 1], γ 5) := by
    unfold en12
    refine (if_pos (show (0 : Nat) = 0 by decide)).trans ?_
    refine (zLet_eq (show _ = γ 1 from rfl)).trans ?_
    refine (zLet_eq (show _ = ρ 5 from rfl)).trans ?_
    refine (zLet_eq m0).trans ?_
    refine (zLet_eq m1).trans ?_
    refine (zLet_eq (show fn6 [ρ 5] (γ 1) = (0, ρ 6, γ 2) from l0.symm)).trans ?_
    refine (zLet_eq (show _ = γ 2 from rfl)).trans ?_
    refine (if_pos w_0).trans ?_
    refine (zLet_eq (show _ = ρ 6 from rfl)).trans ?_
    refine (zLet_eq (show fn9 [ρ 6] (γ 2) = (0, 0, γ 3) from l1.symm)).trans ?_
    refine (zLet_eq (show _ = γ 3 from rfl)).trans ?_
    refine (if_neg zQ0_).trans ?_
    refine (zLet_eq (show fn6 [ρ 5] (γ 3) = (0, ρ 7, γ 4) from l2.symm)).trans ?_
    refine (zLet_eq (show _ = γ 4 from rfl)).trans ?_
    refine (zLet_eq (show _ = ρ 7 from rfl)).trans ?_
    refine (zLet_eq (show fn11 [ρ 7] (γ 4) = (0, 1, γ 5) from l3.symm)).trans ?_
    refine (zLet_eq (show _ = γ 5 from rfl)).trans ?_
    refine (if_pos zQ1_).trans ?_
    rfl
  exact zGoo_ato hJ hD
theorem vn12a0_4 {S : Nat → zSpc} (hS6 : ∀ x g o v gz, S 6 x g o v gz → sn6 x g o v gz) (hS8 : ∀ x g o v gz, S 8 x g o v gz → sn8 x g o v gz) (hS9 : ∀ x g o v gz, S 9 x g o v gz → sn9 x g o v gz) (hS11 : ∀ x g o v gz, S 11 x g o v gz → sn11 x g o v gz) {a : List Int} {g : rHp} : ∀ (ρ : Nat → Int) (γ : Nat → rHp), jn12 a g 0 (zAg (zNA a12_ 0) ρ) (γ 1) → zO 5 S a g q12a0_4 ρ γ → zGl (fun i vs g1 => jn12 a g i vs g1) (sn12 a g) q12a0_4 ρ γ := by
  intro ρ γ hJ h
  obtain ⟨ha, hg, hr, hf, hm, hc, hl⟩ := h
  have ha : a = [ρ 0, ρ 1, ρ 2, ρ 3, ρ 4] := ha
  subst ha
  subst hg
  have hJ : jn12 [ρ 0, ρ 1, ρ 2, ρ 3, ρ 4] (γ 0) 0 [ρ 0, ρ 1, ρ 2, ρ 3, ρ 4, ρ 5] (γ 1) := hJ
  obtain ⟨f0, -⟩ := hf
  have f0 : (0 : Int) ≤ -ρ 5 + ρ 1 + (-1) := f0
  have w_0 : 0 ≤ -ρ 5 + ρ 1 + (-1) := by omega
  obtain ⟨m0, m1, -⟩ := hm
  have m0 : γ 0 15 0 35 = ρ 0 := m0
  have m1 : γ 0 15 0 34 = ρ 1 := m1
  obtain ⟨l0, l1, -⟩ := hl
  have l0 : sn6 [ρ 5, ρ 1] (γ 1) 0 (ρ 6) (γ 2) := hS6 _ _ _ _ _ l0
  have l1 : sn9 [ρ 6] (γ 2) 0 1 (γ 3) := hS9 _ _ _ _ _ l1
  show jn12 [ρ 0, ρ 1, ρ 2, ρ 3, ρ 4] (γ 0) 0 [ρ 0, ρ 1, ρ 2, ρ 3, ρ 4, ρ 5 + 1] (γ 3)
  have hD : en12 (γ 0) (0, [ρ 5], γ 1) = .inl (0, [ρ 5 + 1], γ 3) := by
    unfold en12
    refine (if_pos (show (0 : Nat) = 0 by decide)).trans ?_
    refine (zLet_eq (show _ = γ 1 from rfl)).trans ?_
    refine (zLet_eq (show _ = ρ 5 from rfl)).trans ?_
    refine (zLet_eq m0).trans ?_
    refine (zLet_eq m1).trans ?_
    refine (zLet_eq (show fn6 [ρ 5] (γ 1) = (0, ρ 6, γ 2) from l0.symm)).trans ?_
    refine (zLet_eq (show _ = γ 2 from rfl)).trans ?_
    refine (if_pos w_0).trans ?_
    refine (zLet_eq (show _ = ρ 6 from rfl)).trans ?_
    refine (zLet_eq (show fn9 [ρ 6] (γ 2) = (0, 1, γ 3) from l1.symm)).trans ?_
    refine (zLet_eq (show _ = γ 3 from rfl)).trans ?_
    refine (if_pos zQ1_).trans ?_
    rfl
  exact zGoo_ato hJ hD
theorem vn12a0_5 {S : Nat → zSpc} (hS6 : ∀ x g o v gz, S 6 x g o v gz → sn6 x g o v gz) (hS8 : ∀ x g o v gz, S 8 x g o v gz → sn8 x g o v gz) (hS9 : ∀ x g o v gz, S 9 x g o v gz → sn9 x g o v gz) (hS11 : ∀ x g o v gz, S 11 x g o v gz → sn11 x g o v gz) {a : List Int} {g : rHp} : ∀ (ρ : Nat → Int) (γ : Nat → rHp), jn12 a g 0 (zAg (zNA a12_ 0) ρ) (γ 1) → zO 5 S a g q12a0_5 ρ γ → zGl (fun i vs g1 => jn12 a g i vs g1) (sn12 a g) q12a0_5 ρ γ := by
  intro ρ γ hJ h
  obtain ⟨ha, hg, hr, hf, hm, hc, hl⟩ := h
  have ha : a = [ρ 0, ρ 1, ρ 2, ρ 3, ρ 4] := ha
  subst ha
  subst hg
  have hJ : jn12 [ρ 0, ρ 1, ρ 2, ρ 3, ρ 4] (γ 0) 0 [ρ 0, ρ 1, ρ 2, ρ 3, ρ 4, ρ 5] (γ 1) := hJ
  obtain ⟨f0, f1, -⟩ := hf
  have f0 : (0 : Int) ≤ -ρ 5 + ρ 0 + 12 := f0
  have f1 : (0 : Int) ≤ ρ 5 + -ρ 1 := f1
  obtain ⟨w_0, w_1⟩ : (¬ (0 ≤ -ρ 5 + ρ 1 + (-1))) ∧ (ρ 5 + -ρ 0 ≤ 12) := ⟨by omega, by omega⟩
  obtain ⟨m0, m1, -⟩ := hm
  have m0 : γ 0 15 0 35 = ρ 0 := m0
  have m1 : γ 0 15 0 34 = ρ 1 := m1
  obtain ⟨⟨-, c7⟩, c8⟩ := hc
  have c7 : γ 7 = rUp (γ 6) 15 0 38 (ρ 5 + -ρ 0) := c7
  have c8 : γ 8 = rUp (γ 7) 15 0 35 (ρ 5) := c8
  obtain ⟨l0, l1, l2, l3, l4, -⟩ := hl
  have l0 : sn6 [ρ 5, ρ 1] (γ 1) 0 (-1) (γ 2) := hS6 _ _ _ _ _ l0
  have l1 : sn9 [(-1)] (γ 2) 0 0 (γ 3) := hS9 _ _ _ _ _ l1
  have l2 : sn6 [ρ 5, ρ 1] (γ 3) 0 (-1) (γ 4) := hS6 _ _ _ _ _ l2
  have l3 : sn11 [(-1)] (γ 4) 0 0 (γ 5) := hS11 _ _ _ _ _ l3
  have l4 : sn6 [ρ 5, ρ 1] (γ 5) 0 (-1) (γ 6) := hS6 _ _ _ _ _ l4
  show sn12 [ρ 0, ρ 1, ρ 2, ρ 3, ρ 4] (γ 0) 0 1 (γ 8)
  have hD : en12 (γ 0) (0, [ρ 5], γ 1) = .inr (0, 1, γ 8) := by
    unfold en12
    refine (if_pos (show (0 : Nat) = 0 by decide)).trans ?_
    refine (zLet_eq (show _ = γ 1 from rfl)).trans ?_
    refine (zLet_eq (show _ = ρ 5 from rfl)).trans ?_
    refine (zLet_eq m0).trans ?_
    refine (zLet_eq m1).trans ?_
    refine (zLet_eq (show fn6 [ρ 5] (γ 1) = (0, (-1), γ 2) from l0.symm)).trans ?_
    refine (zLet_eq (show _ = γ 2 from rfl)).trans ?_
    refine (if_neg w_0).trans ?_
    refine (zLet_eq (show fn9 [(-1)] (γ 2) = (0, 0, γ 3) from l1.symm)).trans ?_
    refine (zLet_eq (show _ = γ 3 from rfl)).trans ?_
    refine (zLet_eq (show fn6 [ρ 5] (γ 3) = (0, (-1), γ 4) from l2.symm)).trans ?_
    refine (zLet_eq (show _ = γ 4 from rfl)).trans ?_
    refine (zLet_eq (show fn11 [(-1)] (γ 4) = (0, 0, γ 5) from l3.symm)).trans ?_
    refine (zLet_eq (show _ = γ 5 from rfl)).trans ?_
    refine (zLet_eq (show fn6 [ρ 5] (γ 5) = (0, (-1), γ 6) from l4.symm)).trans ?_
    refine (zLet_eq (show _ = γ 6 from rfl)).trans ?_
    refine (zLet_eq c7.symm).trans ?_
    refine (if_pos w_1).trans ?_
    refine (zLet_eq c8.symm).trans ?_
    rfl
  exact zGoo_aend hJ hD
theorem vn12a0_6 {S : Nat → zSpc} (hS6 : ∀ x g o v gz, S 6 x g o v gz → sn6 x g o v gz) (hS8 : ∀ x g o v gz, S 8 x g o v gz → sn8 x g o v gz) (hS9 : ∀ x g o v gz, S 9 x g o v gz → sn9 x g o v gz) (hS11 : ∀ x g o v gz, S 11 x g o v gz → sn11 x g o v gz) {a : List Int} {g : rHp} : ∀ (ρ : Nat → Int) (γ : Nat → rHp), jn12 a g 0 (zAg (zNA a12_ 0) ρ) (γ 1) → zO 5 S a g q12a0_6 ρ γ → zGl (fun i vs g1 => jn12 a g i vs g1) (sn12 a g) q12a0_6 ρ γ := by
  intro ρ γ hJ h
  obtain ⟨ha, hg, hr, hf, hm, hc, hl⟩ := h
  have ha : a = [ρ 0, ρ 1, ρ 2, ρ 3, ρ 4] := ha
  subst ha
  subst hg
  have hJ : jn12 [ρ 0, ρ 1, ρ 2, ρ 3, ρ 4] (γ 0) 0 [ρ 0, ρ 1, ρ 2, ρ 3, ρ 4, ρ 5] (γ 1) := hJ
  obtain ⟨-, -, f2, f3, -⟩ := hf
  have f2 : (0 : Int) ≤ ρ 5 + -ρ 0 + (-13) := f2
  have f3 : (0 : Int) ≤ ρ 5 + -ρ 1 := f3
  obtain ⟨w_0, w_1⟩ : (¬ (0 ≤ -ρ 5 + ρ 1 + (-1))) ∧ (¬ (ρ 5 + -ρ 0 ≤ 12)) := ⟨by omega, by omega⟩
  obtain ⟨m0, m1, -⟩ := hm
  have m0 : γ 0 15 0 35 = ρ 0 := m0
  have m1 : γ 0 15 0 34 = ρ 1 := m1
  obtain ⟨⟨-, c7⟩, -⟩ := hc
  have c7 : γ 7 = rUp (γ 6) 15 0 38 (ρ 5 + -ρ 0) := c7
  obtain ⟨l0, l1, l2, l3, l4, l5, -⟩ := hl
  have l0 : sn6 [ρ 5, ρ 1] (γ 1) 0 (-1) (γ 2) := hS6 _ _ _ _ _ l0
  have l1 : sn9 [(-1)] (γ 2) 0 0 (γ 3) := hS9 _ _ _ _ _ l1
  have l2 : sn6 [ρ 5, ρ 1] (γ 3) 0 (-1) (γ 4) := hS6 _ _ _ _ _ l2
  have l3 : sn11 [(-1)] (γ 4) 0 0 (γ 5) := hS11 _ _ _ _ _ l3
  have l4 : sn6 [ρ 5, ρ 1] (γ 5) 0 (-1) (γ 6) := hS6 _ _ _ _ _ l4
  have l5 : sn8 [ρ 0, ρ 1, ρ 3] (γ 7) 0 0 (γ 8) := hS8 _ _ _ _ _ l5
  show sn12 [ρ 0, ρ 1, ρ 2, ρ 3, ρ 4] (γ 0) 0 0 (γ 8)
  have hD : en12 (γ 0) (0, [ρ 5], γ 1) = .inr (0, 0, γ 8) := by
    unfold en12
    refine (if_pos (show (0 : Nat) = 0 by decide)).trans ?_
    refine (zLet_eq (show _ = γ 1 from rfl)).trans ?_
    refine (zLet_eq (show _ = ρ 5 from rfl)).trans ?_
    refine (zLet_eq m0).trans ?_
    refine (zLet_eq m1).trans ?_
    refine (zLet_eq (show fn6 [ρ 5] (γ 1) = (0, (-1), γ 2) from l0.symm)).trans ?_
    refine (zLet_eq (show _ = γ 2 from rfl)).trans ?_
    refine (if_neg w_0).trans ?_
    refine (zLet_eq (show fn9 [(-1)] (γ 2) = (0, 0, γ 3) from l1.symm)).trans ?_
    refine (zLet_eq (show _ = γ 3 from rfl)).trans ?_
    refine (zLet_eq (show fn6 [ρ 5] (γ 3) = (0, (-1), γ 4) from l2.symm)).trans ?_
    refine (zLet_eq (show _ = γ 4 from rfl)).trans ?_
    refine (zLet_eq (show fn11 [(-1)] (γ 4) = (0, 0, γ 5) from l3.symm)).trans ?_
    refine (zLet_eq (show _ = γ 5 from rfl)).trans ?_
    refine (zLet_eq (show fn6 [ρ 5] (γ 5) = (0, (-1), γ 6) from l4.symm)).trans ?_
    refine (zLet_eq (show _ = γ 6 from rfl)).trans ?_
    refine (zLet_eq c7.symm).trans ?_
    refine (if_neg w_1).trans ?_
    refine (zLet_eq (show fn8 [ρ 0] (γ 7) = (0, 0, γ 8) from l5.symm)).trans ?_
    refine (zLet_eq (show _ = γ 8 from rfl)).trans ?_
    rfl
  exact zGoo_aend hJ hD
theorem yn12 {S : Nat → zSpc} (hS6 : ∀ x g o v gz, S 6 x g o v gz → sn6 x g o v gz) (hS8 : ∀ x g o v gz, S 8 x g o v gz → sn8 x g o v gz) (hS9 : ∀ x g o v gz, S 9 x g o v gz → sn9 x g o v gz) (hS11 : ∀ x g o v gz, S 11 x g o v gz → sn11 x g o v gz) : ∀ x g o v gz, zSem uW uT w12_.2.2.2.1 w12_.2.2.1.1.length S q12 (fun i => q12a.getD i []) (zNA a12_) x g o v gz → sn12 x g o v gz := by
  intro a g o v gz h
  exact zSem_all (l0 := q12) (las := q12a) (S := S) (J := (fun i vs g1 => jn12 a g i vs g1)) (P := sn12 a g) (fun _ => (show zAll _ [q12_0] from (zAll_c (vn12_0 hS6 hS8 hS9 hS11) zAll_n))) (fun _ => (show zAllI _ 0 [q12a0] from ⟨(show zAll _ [q12a0_0, q12a0_1, q12a0_2, q12a0_3, q12a0_4, q12a0_5, q12a0_6] from (zAll_c (vn12a0_0 hS6 hS8 hS9 hS11) (zAll_c (vn12a0_1 hS6 hS8 hS9 hS11) (zAll_c (vn12a0_2 hS6 hS8 hS9 hS11) (zAll_c (vn12a0_3 hS6 hS8 hS9 hS11) (zAll_c (vn12a0_4 hS6 hS8 hS9 hS11) (zAll_c (vn12a0_5 hS6 hS8 hS9 hS11) (zAll_c (vn12a0_6 hS6 hS8 hS9 hS11) zAll_n)))))))), trivial⟩)) h
theorem vn13_0 {S : Nat → zSpc}  {a : List Int} {g : rHp} : ∀ (ρ : Nat → Int) (γ : Nat → rHp), zO 7 S a g q13_0 ρ γ → zGl (fun _ _ _ => True) (sn13 a g) q13_0 ρ γ := by
  intro ρ γ h
  obtain ⟨ha, hg, hr, hf, hm, hc, hl⟩ := h
  have ha : a = [ρ 0, ρ 1, ρ 2, ρ 3, ρ 4, ρ 5, ρ 6] := ha
  subst ha
  subst hg
  obtain ⟨-, r1, r2, r3, r4, r5, r6, -⟩ := hr
  have r1 : ((-2147483648) : Int) ≤ ρ 1 ∧ ρ 1 ≤ 2147483647 := r1
  have r2 : ((-2147483648) : Int) ≤ ρ 2 ∧ ρ 2 ≤ 2147483647 := r2
  have r3 : ((-2147483648) : Int) ≤ ρ 3 ∧ ρ 3 ≤ 2147483647 := r3
  have r4 : ((-2147483648) : Int) ≤ ρ 4 ∧ ρ 4 ≤ 2147483647 := r4
  have r5 : (0 : Int) ≤ ρ 5 ∧ ρ 5 ≤ 2000 := r5
  have r6 : (0 : Int) ≤ ρ 6 ∧ ρ 6 ≤ 2000 := r6
  obtain ⟨f0, -⟩ := hf
  have f0 : (0 : Int) ≤ -ρ 6 + -ρ 5 + 2000 := f0
  obtain ⟨m0, m1, -⟩ := hm
  have m0 : γ 0 15 0 37 = ρ 5 := m0
  have m1 : γ 0 15 0 38 = ρ 6 := m1
  obtain ⟨l0, l1, l2, l3, l4, -⟩ := hl
  have l0 : ρ 1 ≠ 0 := l0
  have l1 : ρ 2 ≠ 0 := l1
  have l2 : ρ 3 ≠ 0 := l2
  have l3 : ρ 4 ≠ 0 := l3
  have l4 : ρ 6 ≠ 5 := l4
  obtain ⟨wl_0, wl_1, wl_2, wl_3, wl_4⟩ : (ρ 1 ≠ 0) ∧ (ρ 2 ≠ 0) ∧ (ρ 3 ≠ 0) ∧ (ρ 4 ≠ 0) ∧ (ρ 6 ≠ 5) := ⟨by omega, by omega, by omega, by omega, by omega⟩
  show sn13 [ρ 0, ρ 1, ρ 2, ρ 3, ρ 4, ρ 5, ρ 6] (γ 0) 0 0 (γ 0)
  refine Eq.symm ?_
  show fn13 [ρ 0, ρ 1, ρ 2, ρ 3, ρ 4] (γ 0) = _
  unfold fn13
  refine (zLet_eq (show _ = ρ 0 from rfl)).trans ?_
  refine (zLet_eq (show _ = ρ 1 from rfl)).trans ?_
  refine (zLet_eq (show _ = ρ 2 from rfl)).trans ?_
  refine (zLet_eq (show _ = ρ 3 from rfl)).trans ?_
  refine (zLet_eq (show _ = ρ 4 from rfl)).trans ?_
  refine (zLet_eq m0).trans ?_
  refine (zLet_eq m1).trans ?_
  refine (if_pos wl_0).trans ?_
  refine (if_pos wl_1).trans ?_
  refine (if_pos wl_2).trans ?_
  refine (if_pos wl_3).trans ?_
  refine (if_pos wl_4).trans ?_
  rfl
theorem vn13_1 {S : Nat → zSpc}  {a : List Int} {g : rHp} : ∀ (ρ : Nat → Int) (γ : Nat → rHp), zO 7 S a g q13_1 ρ γ → zGl (fun _ _ _ => True) (sn13 a g) q13_1 ρ γ := by
  intro ρ γ h
  obtain ⟨ha, hg, hr, hf, hm, hc, hl⟩ := h
  have ha : a = [ρ 0, ρ 1, ρ 2, ρ 3, ρ 4, ρ 5, ρ 6] := ha
  subst ha
  subst hg
  obtain ⟨r0, r1, r2, r3, r4, -, r6, r7, -⟩ := hr
  have r0 : ((-2147483648) : Int) ≤ ρ 0 ∧ ρ 0 ≤ 2147483647 := r0
  have r1 : ((-2147483648) : Int) ≤ ρ 1 ∧ ρ 1 ≤ 2147483647 := r1
  have r2 : ((-2147483648) : Int) ≤ ρ 2 ∧ ρ 2 ≤ 2147483647 := r2
  have r3 : ((-2147483648) : Int) ≤ ρ 3 ∧ ρ 3 ≤ 2147483647 := r3
  have r4 : ((-2147483648) : Int) ≤ ρ 4 ∧ ρ 4 ≤ 2147483647 := r4
  have r6 : (5 : Int) ≤ ρ 6 ∧ ρ 6 ≤ 5 := r6
  have r7 : ((-128) : Int) ≤ ρ 7 ∧ ρ 7 ≤ 127 := r7
  have w_0 : ¬ (ρ 6 ≠ 5) := by omega
  obtain ⟨m0, m1, m2, -⟩ := hm
  have m0 : γ 0 15 0 37 = ρ 5 := m0
  have m1 : γ 0 15 0 38 = ρ 6 := m1
  have m2 : γ 0 59 0 (ρ 5) = ρ 7 := m2
  obtain ⟨l0, l1, l2, l3, l4, -⟩ := hl
  have l0 : ρ 1 ≠ 0 := l0
  have l1 : ρ 2 ≠ 0 := l1
  have l2 : ρ 3 ≠ 0 := l2
  have l3 : ρ 4 ≠ 0 := l3
  have l4 : ρ 7 ≠ ρ 0 := l4
  obtain ⟨wl_0, wl_1, wl_2, wl_3, wl_4⟩ : (ρ 1 ≠ 0) ∧ (ρ 2 ≠ 0) ∧ (ρ 3 ≠ 0) ∧ (ρ 4 ≠ 0) ∧ (ρ 7 ≠ ρ 0) := ⟨by omega, by omega, by omega, by omega, by omega⟩
  show sn13 [ρ 0, ρ 1, ρ 2, ρ 3, ρ 4, ρ 5, ρ 6] (γ 0) 0 0 (γ 0)
  refine Eq.symm ?_
  show fn13 [ρ 0, ρ 1, ρ 2, ρ 3, ρ 4] (γ 0) = _
  unfold fn13
  refine (zLet_eq (show _ = ρ 0 from rfl)).trans ?_
  refine (zLet_eq (show _ = ρ 1 from rfl)).trans ?_
  refine (zLet_eq (show _ = ρ 2 from rfl)).trans ?_
  refine (zLet_eq (show _ = ρ 3 from rfl)).trans ?_
  refine (zLet_eq (show _ = ρ 4 from rfl)).trans ?_
  refine (zLet_eq m0).trans ?_
  refine (zLet_eq m1).trans ?_
  refine (if_pos wl_0).trans ?_
  refine (if_pos wl_1).trans ?_
  refine (if_pos wl_2).trans ?_
  refine (if_pos wl_3).trans ?_
  refine (if_neg w_0).trans ?_
  refine (zLet_eq m2).trans ?_
  refine (if_pos wl_4).trans ?_
  rfl
theorem vn13_2 {S : Nat → zSpc}  {a : List Int} {g : rHp} : ∀ (ρ : Nat → Int) (γ : Nat → rHp), zO 7 S a g q13_2 ρ γ → zGl (fun _ _ _ => True) (sn13 a g) q13_2 ρ γ := by
  intro ρ γ h
  obtain ⟨ha, hg, hr, hf, hm, hc, hl⟩ := h
  have ha : a = [ρ 0, ρ 1, ρ 2, ρ 3, ρ 4, ρ 5, ρ 6] := ha
  subst ha
  subst hg
  obtain ⟨-, r1, r2, r3, r4, -, r6, -, r8, -⟩ := hr
  have r1 : ((-2147483648) : Int) ≤ ρ 1 ∧ ρ 1 ≤ 2147483647 := r1
  have r2 : ((-2147483648) : Int) ≤ ρ 2 ∧ ρ 2 ≤ 2147483647 := r2
  have r3 : ((-2147483648) : Int) ≤ ρ 3 ∧ ρ 3 ≤ 2147483647 := r3
  have r4 : ((-2147483648) : Int) ≤ ρ 4 ∧ ρ 4 ≤ 2147483647 := r4
  have r6 : (5 : Int) ≤ ρ 6 ∧ ρ 6 ≤ 5 := r6
  have r8 : ((-128) : Int) ≤ ρ 8 ∧ ρ 8 ≤ 127 := r8
  obtain ⟨f0, f1, -⟩ := hf
  have f0 : (0 : Int) ≤ -ρ 7 + ρ 0 := f0
  have f1 : (0 : Int) ≤ ρ 7 + -ρ 0 := f1
  obtain ⟨w_0, w_1⟩ : (¬ (ρ 6 ≠ 5)) ∧ (¬ (ρ 7 ≠ ρ 0)) := ⟨by omega, by omega⟩
  obtain ⟨m0, m1, m2, m3, -⟩ := hm
  have m0 : γ 0 15 0 37 = ρ 5 := m0
  have m1 : γ 0 15 0 38 = ρ 6 := m1
  have m2 : γ 0 59 0 (ρ 5) = ρ 7 := m2
  have m3 : γ 0 59 0 (ρ 5 + 1) = ρ 8 := m3
  obtain ⟨l0, l1, l2, l3, l4, -⟩ := hl
  have l0 : ρ 1 ≠ 0 := l0
  have l1 : ρ 2 ≠ 0 := l1
  have l2 : ρ 3 ≠ 0 := l2
  have l3 : ρ 4 ≠ 0 := l3
  have l4 : ρ 8 ≠ ρ 1 := l4
  obtain ⟨wl_0, wl_1, wl_2, wl_3, wl_4⟩ : (ρ 1 ≠ 0) ∧ (ρ 2 ≠ 0) ∧ (ρ 3 ≠ 0) ∧ (ρ 4 ≠ 0) ∧ (ρ 8 ≠ ρ 1) := ⟨by omega, by omega, by omega, by omega, by omega⟩
  show sn13 [ρ 0, ρ 1, ρ 2, ρ 3, ρ 4, ρ 5, ρ 6] (γ 0) 0 0 (γ 0)
  refine Eq.symm ?_
  show fn13 [ρ 0, ρ 1, ρ 2, ρ 3, ρ 4] (γ 0) = _
  unfold fn13
  refine (zLet_eq (show _ = ρ 0 from rfl)).trans ?_
  refine (zLet_eq (show _ = ρ 1 from rfl)).trans ?_
  refine (zLet_eq (show _ = ρ 2 from rfl)).trans ?_
  refine (zLet_eq (show _ = ρ 3 from rfl)).trans ?_
  refine (zLet_eq (show _ = ρ 4 from rfl)).trans ?_
  refine (zLet_eq m0).trans ?_
  refine (zLet_eq m1).trans ?_
  refine (if_pos wl_0).trans ?_
  refine (if_pos wl_1).trans ?_
  refine (if_pos wl_2).trans ?_
  refine (if_pos wl_3).trans ?_
  refine (if_neg w_0).trans ?_
  refine (zLet_eq m2).trans ?_
  refine (if_neg w_1).trans ?_
  refine (zLet_eq m3).trans ?_
  refine (if_pos wl_4).trans ?_
  rfl
theorem vn13_3 {S : Nat → zSpc}  {a : List Int} {g : rHp} : ∀ (ρ : Nat → Int) (γ : Nat → rHp), zO 7 S a g q13_3 ρ γ → zGl (fun _ _ _ => True) (sn13 a g) q13_3 ρ γ := by
  intro ρ γ h
  obtain ⟨ha, hg, hr, hf, hm, hc, hl⟩ := h
  have ha : a = [ρ 0, ρ 1, ρ 2, ρ 3, ρ 4, ρ 5, ρ 6] := ha
  subst ha
  subst hg
  obtain ⟨-, r1, r2, r3, r4, -, r6, -, r8, r9, -⟩ := hr
  have r1 : ((-2147483648) : Int) ≤ ρ 1 ∧ ρ 1 ≤ 2147483647 := r1
  have r2 : ((-2147483648) : Int) ≤ ρ 2 ∧ ρ 2 ≤ 2147483647 := r2
  have r3 : ((-2147483648) : Int) ≤ ρ 3 ∧ ρ 3 ≤ 2147483647 := r3
  have r4 : ((-2147483648) : Int) ≤ ρ 4 ∧ ρ 4 ≤ 2147483647 := r4
  have r6 : (5 : Int) ≤ ρ 6 ∧ ρ 6 ≤ 5 := r6
  have r8 : ((-128) : Int) ≤ ρ 8 ∧ ρ 8 ≤ 127 := r8
  have r9 : ((-128) : Int) ≤ ρ 9 ∧ ρ 9 ≤ 127 := r9
  obtain ⟨f0, f1, f2, f3, -⟩ := hf
  have f0 : (0 : Int) ≤ -ρ 8 + ρ 1 := f0
  have f1 : (0 : Int) ≤ ρ 8 + -ρ 1 := f1
  have f2 : (0 : Int) ≤ -ρ 7 + ρ 0 := f2
  have f3 : (0 : Int) ≤ ρ 7 + -ρ 0 := f3
  obtain ⟨w_0, w_1, w_2⟩ : (¬ (ρ 6 ≠ 5)) ∧ (¬ (ρ 7 ≠ ρ 0)) ∧ (¬ (ρ 8 ≠ ρ 1)) := ⟨by omega, by omega, by omega⟩
  obtain ⟨m0, m1, m2, m3, m4, -⟩ := hm
  have m0 : γ 0 15 0 37 = ρ 5 := m0
  have m1 : γ 0 15 0 38 = ρ 6 := m1
  have m2 : γ 0 59 0 (ρ 5) = ρ 7 := m2
  have m3 : γ 0 59 0 (ρ 5 + 1) = ρ 8 := m3
  have m4 : γ 0 59 0 (ρ 5 + 2) = ρ 9 := m4
  obtain ⟨l0, l1, l2, l3, l4, -⟩ := hl
  have l0 : ρ 1 ≠ 0 := l0
  have l1 : ρ 2 ≠ 0 := l1
  have l2 : ρ 3 ≠ 0 := l2
  have l3 : ρ 4 ≠ 0 := l3
  have l4 : ρ 9 ≠ ρ 2 := l4
  obtain ⟨wl_0, wl_1, wl_2, wl_3, wl_4⟩ : (ρ 1 ≠ 0) ∧ (ρ 2 ≠ 0) ∧ (ρ 3 ≠ 0) ∧ (ρ 4 ≠ 0) ∧ (ρ 9 ≠ ρ 2) := ⟨by omega, by omega, by omega, by omega, by omega⟩
  show sn13 [ρ 0, ρ 1, ρ 2, ρ 3, ρ 4, ρ 5, ρ 6] (γ 0) 0 0 (γ 0)
  refine Eq.symm ?_
  show fn13 [ρ 0, ρ 1, ρ 2, ρ 3, ρ 4] (γ 0) = _
  unfold fn13
  refine (zLet_eq (show _ = ρ 0 from rfl)).trans ?_
  refine (zLet_eq (show _ = ρ 1 from rfl)).trans ?_
  refine (zLet_eq (show _ = ρ 2 from rfl)).trans ?_
  refine (zLet_eq (show _ = ρ 3 from rfl)).trans ?_
  refine (zLet_eq (show _ = ρ 4 from rfl)).trans ?_
  refine (zLet_eq m0).trans ?_
  refine (zLet_eq m1).trans ?_
  refine (if_pos wl_0).trans ?_
  refine (if_pos wl_1).trans ?_
  refine (if_pos wl_2).trans ?_
  refine (if_pos wl_3).trans ?_
  refine (if_neg w_0).trans ?_
  refine (zLet_eq m2).trans ?_
  refine (if_neg w_1).trans ?_
  refine (zLet_eq m3).trans ?_
  refine (if_neg w_2).trans ?_
  refine (zLet_eq m4).trans ?_
  refine (if_pos wl_4).trans ?_
  rfl
theorem vn13_4 {S : Nat → zSpc}  {a : List Int} {g : rHp} : ∀ (ρ : Nat → Int) (γ : Nat → rHp), zO 7 S a g q13_4 ρ γ → zGl (fun _ _ _ => True) (sn13 a g) q13_4 ρ γ := by
  intro ρ γ h
  obtain ⟨ha, hg, hr, hf, hm, hc, hl⟩ := h
  have ha : a = [ρ 0, ρ 1, ρ 2, ρ 3, ρ 4, ρ 5, ρ 6] := ha
  subst ha
  subst hg
  obtain ⟨-, r1, r2, r3, r4, -, r6, -, r8, r9, r10, -⟩ := hr
  have r1 : ((-2147483648) : Int) ≤ ρ 1 ∧ ρ 1 ≤ 2147483647 := r1
  have r2 : ((-2147483648) : Int) ≤ ρ 2 ∧ ρ 2 ≤ 2147483647 := r2
  have r3 : ((-2147483648) : Int) ≤ ρ 3 ∧ ρ 3 ≤ 2147483647 := r3
  have r4 : ((-2147483648) : Int) ≤ ρ 4 ∧ ρ 4 ≤ 2147483647 := r4
  have r6 : (5 : Int) ≤ ρ 6 ∧ ρ 6 ≤ 5 := r6
  have r8 : ((-128) : Int) ≤ ρ 8 ∧ ρ 8 ≤ 127 := r8
  have r9 : ((-128) : Int) ≤ ρ 9 ∧ ρ 9 ≤ 127 := r9
  have r10 : ((-128) : Int) ≤ ρ 10 ∧ ρ 10 ≤ 127 := r10
  obtain ⟨f0, f1, f2, f3, f4, f5, -⟩ := hf
  have f0 : (0 : Int) ≤ -ρ 9 + ρ 2 := f0
  have f1 : (0 : Int) ≤ ρ 9 + -ρ 2 := f1
  have f2 : (0 : Int) ≤ -ρ 8 + ρ 1 := f2
  have f3 : (0 : Int) ≤ ρ 8 + -ρ 1 := f3
  have f4 : (0 : Int) ≤ -ρ 7 + ρ 0 := f4
  have f5 : (0 : Int) ≤ ρ 7 + -ρ 0 := f5
  obtain ⟨w_0, w_1, w_2, w_3⟩ : (¬ (ρ 6 ≠ 5)) ∧ (¬ (ρ 7 ≠ ρ 0)) ∧ (¬ (ρ 8 ≠ ρ 1)) ∧ (¬ (ρ 9 ≠ ρ 2)) := ⟨by clear r1 r2 r3 r4 r8 r9 r10 f0 f1 f2 f3 f4 f5; omega, by clear r1 r2 r3 r4 r6 r8 r9 r10 f0 f1 f2 f3; omega, by clear r1 r2 r3 r4 r6 r8 r9 r10 f0 f1 f4 f5; omega, by clear r1 r2 r3 r4 r6 r8 r9 r10 f2 f3 f4 f5; omega⟩
  obtain ⟨m0, m1, m2, m3, m4, m5, -⟩ := hm
  have m0 : γ 0 15 0 37 = ρ 5 := m0
  have m1 : γ 0 15 0 38 = ρ 6 := m1
  have m2 : γ 0 59 0 (ρ 5) = ρ 7 := m2
  have m3 : γ 0 59 0 (ρ 5 + 1) = ρ 8 := m3
  have m4 : γ 0 59 0 (ρ 5 + 2) = ρ 9 := m4
  have m5 : γ 0 59 0 (ρ 5 + 3) = ρ 10 := m5
  obtain ⟨l0, l1, l2, l3, l4, -⟩ := hl
  have l0 : ρ 1 ≠ 0 := l0
  have l1 : ρ 2 ≠ 0 := l1
  have l2 : ρ 3 ≠ 0 := l2
  have l3 : ρ 4 ≠ 0 := l3
  have l4 : ρ 10 ≠ ρ 3 := l4
  obtain ⟨wl_0, wl_1, wl_2, wl_3, wl_4⟩ : (ρ 1 ≠ 0) ∧ (ρ 2 ≠ 0) ∧ (ρ 3 ≠ 0) ∧ (ρ 4 ≠ 0) ∧ (ρ 10 ≠ ρ 3) := ⟨by omega, by omega, by omega, by omega, by omega⟩
  show sn13 [ρ 0, ρ 1, ρ 2, ρ 3, ρ 4, ρ 5, ρ 6] (γ 0) 0 0 (γ 0)
  refine Eq.symm ?_
  show fn13 [ρ 0, ρ 1, ρ 2, ρ 3, ρ 4] (γ 0) = _
  unfold fn13
  refine (zLet_eq (show _ = ρ 0 from rfl)).trans ?_
  refine (zLet_eq (show _ = ρ 1 from rfl)).trans ?_
  refine (zLet_eq (show _ = ρ 2 from rfl)).trans ?_
  refine (zLet_eq (show _ = ρ 3 from rfl)).trans ?_
  refine (zLet_eq (show _ = ρ 4 from rfl)).trans ?_
  refine (zLet_eq m0).trans ?_
  refine (zLet_eq m1).trans ?_
  refine (if_pos wl_0).trans ?_
  refine (if_pos wl_1).trans ?_
  refine (if_pos wl_2).trans ?_
  refine (if_pos wl_3).trans ?_
  refine (if_neg w_0).trans ?_
  refine (zLet_eq m2).trans ?_
  refine (if_neg w_1).trans ?_
  refine (zLet_eq m3).trans ?_
  refine (if_neg w_2).trans ?_
  refine (zLet_eq m4).trans ?_
  refine (if_neg w_3).trans ?_
  refine (zLet_eq m5).trans ?_
  refine (if_pos wl_4).trans ?_
  rfl
theorem vn13_5 {S : Nat → zSpc}  {a : List Int} {g : rHp} : ∀ (ρ : Nat → Int) (γ : Nat → rHp), zO 7 S a g q13_5 ρ γ → zGl (fun _ _ _ => True) (sn13 a g) q13_5 ρ γ := by
  intro ρ γ h
  obtain ⟨ha, hg, hr, hf, hm, hc, hl⟩ := h
  have ha : a = [ρ 0, ρ 1, ρ 2, ρ 3, ρ 4, ρ 5, ρ 6] := ha
  subst ha
  subst hg
  obtain ⟨-, r1, r2, r3, r4, -, r6, -, r8, r9, r10, r11, -⟩ := hr
  have r1 : ((-2147483648) : Int) ≤ ρ 1 ∧ ρ 1 ≤ 2147483647 := r1
  have r2 : ((-2147483648) : Int) ≤ ρ 2 ∧ ρ 2 ≤ 2147483647 := r2
  have r3 : ((-2147483648) : Int) ≤ ρ 3 ∧ ρ 3 ≤ 2147483647 := r3
  have r4 : ((-2147483648) : Int) ≤ ρ 4 ∧ ρ 4 ≤ 2147483647 := r4
  have r6 : (5 : Int) ≤ ρ 6 ∧ ρ 6 ≤ 5 := r6
  have r8 : ((-128) : Int) ≤ ρ 8 ∧ ρ 8 ≤ 127 := r8
  have r9 : ((-128) : Int) ≤ ρ 9 ∧ ρ 9 ≤ 127 := r9
  have r10 : ((-128) : Int) ≤ ρ 10 ∧ ρ 10 ≤ 127 := r10
  have r11 : ((-128) : Int) ≤ ρ 11 ∧ ρ 11 ≤ 127 := r11
  obtain ⟨f0, f1, f2, f3, f4, f5, f6, f7, -⟩ := hf
  have f0 : (0 : Int) ≤ -ρ 10 + ρ 3 := f0
  have f1 : (0 : Int) ≤ ρ 10 + -ρ 3 := f1
  have f2 : (0 : Int) ≤ -ρ 9 + ρ 2 := f2
  have f3 : (0 : Int) ≤ ρ 9 + -ρ 2 := f3
  have f4 : (0 : Int) ≤ -ρ 8 + ρ 1 := f4
  have f5 : (0 : Int) ≤ ρ 8 + -ρ 1 := f5
  have f6 : (0 : Int) ≤ -ρ 7 + ρ 0 := f6
  have f7 : (0 : Int) ≤ ρ 7 + -ρ 0 := f7
  obtain ⟨w_0, w_1, w_2, w_3, w_4⟩ : (¬ (ρ 6 ≠ 5)) ∧ (¬ (ρ 7 ≠ ρ 0)) ∧ (¬ (ρ 8 ≠ ρ 1)) ∧ (¬ (ρ 9 ≠ ρ 2)) ∧ (¬ (ρ 10 ≠ ρ 3)) := ⟨by clear r1 r2 r3 r4 r8 r9 r10 r11 f0 f1 f2 f3 f4 f5 f6 f7; omega, by clear r1 r2 r3 r4 r6 r8 r9 r10 r11 f0 f1 f2 f3 f4 f5; omega, by clear r1 r2 r3 r4 r6 r8 r9 r10 r11 f0 f1 f2 f3 f6 f7; omega, by clear r1 r2 r3 r4 r6 r8 r9 r10 r11 f0 f1 f4 f5 f6 f7; omega, by clear r1 r2 r3 r4 r6 r8 r9 r10 r11 f2 f3 f4 f5 f6 f7; omega⟩
  obtain ⟨m0, m1, m2, m3, m4, m5, m6, -⟩ := hm
  have m0 : γ 0 15 0 37 = ρ 5 := m0
  have m1 : γ 0 15 0 38 = ρ 6 := m1
  have m2 : γ 0 59 0 (ρ 5) = ρ 7 := m2
  have m3 : γ 0 59 0 (ρ 5 + 1) = ρ 8 := m3
  have m4 : γ 0 59 0 (ρ 5 + 2) = ρ 9 := m4
  have m5 : γ 0 59 0 (ρ 5 + 3) = ρ 10 := m5
  have m6 : γ 0 59 0 (ρ 5 + 4) = ρ 11 := m6
  obtain ⟨l0, l1, l2, l3, l4, -⟩ := hl
  have l0 : ρ 1 ≠ 0 := l0
  have l1 : ρ 2 ≠ 0 := l1
  have l2 : ρ 3 ≠ 0 := l2
  have l3 : ρ 4 ≠ 0 := l3
  have l4 : ρ 11 ≠ ρ 4 := l4
  obtain ⟨wl_0, wl_1, wl_2, wl_3, wl_4⟩ : (ρ 1 ≠ 0) ∧ (ρ 2 ≠ 0) ∧ (ρ 3 ≠ 0) ∧ (ρ 4 ≠ 0) ∧ (ρ 11 ≠ ρ 4) := ⟨by omega, by omega, by omega, by omega, by omega⟩
  show sn13 [ρ 0, ρ 1, ρ 2, ρ 3, ρ 4, ρ 5, ρ 6] (γ 0) 0 0 (γ 0)
  refine Eq.symm ?_
  show fn13 [ρ 0, ρ 1, ρ 2, ρ 3, ρ 4] (γ 0) = _
  unfold fn13
  refine (zLet_eq (show _ = ρ 0 from rfl)).trans ?_
  refine (zLet_eq (show _ = ρ 1 from rfl)).trans ?_
  refine (zLet_eq (show _ = ρ 2 from rfl)).trans ?_
  refine (zLet_eq (show _ = ρ 3 from rfl)).trans ?_
  refine (zLet_eq (show _ = ρ 4 from rfl)).trans ?_
  refine (zLet_eq m0).trans ?_
  refine (zLet_eq m1).trans ?_
  refine (if_pos wl_0).trans ?_
  refine (if_pos wl_1).trans ?_
  refine (if_pos wl_2).trans ?_
  refine (if_pos wl_3).trans ?_
  refine (if_neg w_0).trans ?_
  refine (zLet_eq m2).trans ?_
  refine (if_neg w_1).trans ?_
  refine (zLet_eq m3).trans ?_
  refine (if_neg w_2).trans ?_
  refine (zLet_eq m4).trans ?_
  refine (if_neg w_3).trans ?_
  refine (zLet_eq m5).trans ?_
  refine (if_neg w_4).trans ?_
  refine (zLet_eq m6).trans ?_
  refine (if_pos wl_4).trans ?_
  rfl
theorem vn13_6 {S : Nat → zSpc}  {a : List Int} {g : rHp} : ∀ (ρ : Nat → Int) (γ : Nat → rHp), zO 7 S a g q13_6 ρ γ → zGl (fun _ _ _ => True) (sn13 a g) q13_6 ρ γ := by
  intro ρ γ h
  obtain ⟨ha, hg, hr, hf, hm, hc, hl⟩ := h
  have ha : a = [ρ 0, ρ 1, ρ 2, ρ 3, ρ 4, ρ 5, ρ 6] := ha
  subst ha
  subst hg
  obtain ⟨-, r1, r2, r3, r4, -, r6, -, r8, r9, r10, r11, -⟩ := hr
  have r1 : ((-2147483648) : Int) ≤ ρ 1 ∧ ρ 1 ≤ 2147483647 := r1
  have r2 : ((-2147483648) : Int) ≤ ρ 2 ∧ ρ 2 ≤ 2147483647 := r2
  have r3 : ((-2147483648) : Int) ≤ ρ 3 ∧ ρ 3 ≤ 2147483647 := r3
  have r4 : ((-2147483648) : Int) ≤ ρ 4 ∧ ρ 4 ≤ 2147483647 := r4
  have r6 : (5 : Int) ≤ ρ 6 ∧ ρ 6 ≤ 5 := r6
  have r8 : ((-128) : Int) ≤ ρ 8 ∧ ρ 8 ≤ 127 := r8
  have r9 : ((-128) : Int) ≤ ρ 9 ∧ ρ 9 ≤ 127 := r9
  have r10 : ((-128) : Int) ≤ ρ 10 ∧ ρ 10 ≤ 127 := r10
  have r11 : ((-128) : Int) ≤ ρ 11 ∧ ρ 11 ≤ 127 := r11
  obtain ⟨f0, f1, f2, f3, f4, f5, f6, f7, f8, f9, -⟩ := hf
  have f0 : (0 : Int) ≤ -ρ 11 + ρ 4 := f0
  have f1 : (0 : Int) ≤ ρ 11 + -ρ 4 := f1
  have f2 : (0 : Int) ≤ -ρ 10 + ρ 3 := f2
  have f3 : (0 : Int) ≤ ρ 10 + -ρ 3 := f3
  have f4 : (0 : Int) ≤ -ρ 9 + ρ 2 := f4
  have f5 : (0 : Int) ≤ ρ 9 + -ρ 2 := f5
  have f6 : (0 : Int) ≤ -ρ 8 + ρ 1 := f6
  have f7 : (0 : Int) ≤ ρ 8 + -ρ 1 := f7
  have f8 : (0 : Int) ≤ -ρ 7 + ρ 0 := f8
  have f9 : (0 : Int) ≤ ρ 7 + -ρ 0 := f9
  obtain ⟨w_0, w_1, w_2, w_3, w_4, w_5⟩ : (¬ (ρ 6 ≠ 5)) ∧ (¬ (ρ 7 ≠ ρ 0)) ∧ (¬ (ρ 8 ≠ ρ 1)) ∧ (¬ (ρ 9 ≠ ρ 2)) ∧ (¬ (ρ 10 ≠ ρ 3)) ∧ (¬ (ρ 11 ≠ ρ 4)) := ⟨by clear r1 r2 r3 r4 r8 r9 r10 r11 f0 f1 f2 f3 f4 f5 f6 f7 f8 f9; omega, by clear r1 r2 r3 r4 r6 r8 r9 r10 r11 f0 f1 f2 f3 f4 f5 f6 f7; omega, by clear r1 r2 r3 r4 r6 r8 r9 r10 r11 f0 f1 f2 f3 f4 f5 f8 f9; omega, by clear r1 r2 r3 r4 r6 r8 r9 r10 r11 f0 f1 f2 f3 f6 f7 f8 f9; omega, by clear r1 r2 r3 r4 r6 r8 r9 r10 r11 f0 f1 f4 f5 f6 f7 f8 f9; omega, by clear r1 r2 r3 r4 r6 r8 r9 r10 r11 f2 f3 f4 f5 f6 f7 f8 f9; omega⟩
  obtain ⟨m0, m1, m2, m3, m4, m5, m6, -⟩ := hm
  have m0 : γ 0 15 0 37 = ρ 5 := m0
  have m1 : γ 0 15 0 38 = ρ 6 := m1
  have m2 : γ 0 59 0 (ρ 5) = ρ 7 := m2
  have m3 : γ 0 59 0 (ρ 5 + 1) = ρ 8 := m3
  have m4 : γ 0 59 0 (ρ 5 + 2) = ρ 9 := m4
  have m5 : γ 0 59 0 (ρ 5 + 3) = ρ 10 := m5
  have m6 : γ 0 59 0 (ρ 5 + 4) = ρ 11 := m6
  obtain ⟨l0, l1, l2, l3, -⟩ := hl
  have l0 : ρ 1 ≠ 0 := l0
  have l1 : ρ 2 ≠ 0 := l1
  have l2 : ρ 3 ≠ 0 := l2
  have l3 : ρ 4 ≠ 0 := l3
  obtain ⟨wl_0, wl_1, wl_2, wl_3⟩ : (ρ 1 ≠ 0) ∧ (ρ 2 ≠ 0) ∧ (ρ 3 ≠ 0) ∧ (ρ 4 ≠ 0) := ⟨by omega, by omega, by omega, by omega⟩
  show sn13 [ρ 0, ρ 1, ρ 2, ρ 3, ρ 4, ρ 5, ρ 6] (γ 0) 0 1 (γ 0)
  refine Eq.symm ?_
  show fn13 [ρ 0, ρ 1, ρ 2, ρ 3, ρ 4] (γ 0) = _
  unfold fn13
  refine (zLet_eq (show _ = ρ 0 from rfl)).trans ?_
  refine (zLet_eq (show _ = ρ 1 from rfl)).trans ?_
  refine (zLet_eq (show _ = ρ 2 from rfl)).trans ?_
  refine (zLet_eq (show _ = ρ 3 from rfl)).trans ?_
  refine (zLet_eq (show _ = ρ 4 from rfl)).trans ?_
  refine (zLet_eq m0).trans ?_
  refine (zLet_eq m1).trans ?_
  refine (if_pos wl_0).trans ?_
  refine (if_pos wl_1).trans ?_
  refine (if_pos wl_2).trans ?_
  refine (if_pos wl_3).trans ?_
  refine (if_neg w_0).trans ?_
  refine (zLet_eq m2).trans ?_
  refine (if_neg w_1).trans ?_
  refine (zLet_eq m3).trans ?_
  refine (if_neg w_2).trans ?_
  refine (zLet_eq m4).trans ?_
  refine (if_neg w_3).trans ?_
  refine (zLet_eq m5).trans ?_
  refine (if_neg w_4).trans ?_
  refine (zLet_eq m6).trans ?_
  refine (if_neg w_5).trans ?_
  rfl
theorem vn13_7 {S : Nat → zSpc}  {a : List Int} {g : rHp} : ∀ (ρ : Nat → Int) (γ : Nat → rHp), zO 7 S a g q13_7 ρ γ → zGl (fun _ _ _ => True) (sn13 a g) q13_7 ρ γ := by
  intro ρ γ h
  obtain ⟨ha, hg, hr, hf, hm, hc, hl⟩ := h
  have ha : a = [ρ 0, ρ 1, ρ 2, ρ 3, ρ 4, ρ 5, ρ 6] := ha
  subst ha
  subst hg
  obtain ⟨-, r1, r2, r3, r4, r5, r6, -⟩ := hr
  have r1 : ((-2147483648) : Int) ≤ ρ 1 ∧ ρ 1 ≤ 2147483647 := r1
  have r2 : ((-2147483648) : Int) ≤ ρ 2 ∧ ρ 2 ≤ 2147483647 := r2
  have r3 : ((-2147483648) : Int) ≤ ρ 3 ∧ ρ 3 ≤ 2147483647 := r3
  have r4 : (0 : Int) ≤ ρ 4 ∧ ρ 4 ≤ 0 := r4
  have r5 : (0 : Int) ≤ ρ 5 ∧ ρ 5 ≤ 2000 := r5
  have r6 : (0 : Int) ≤ ρ 6 ∧ ρ 6 ≤ 2000 := r6
  obtain ⟨f0, -⟩ := hf
  have f0 : (0 : Int) ≤ -ρ 6 + -ρ 5 + 2000 := f0
  have w_0 : ¬ (ρ 4 ≠ 0) := by omega
  obtain ⟨m0, m1, -⟩ := hm
  have m0 : γ 0 15 0 37 = ρ 5 := m0
  have m1 : γ 0 15 0 38 = ρ 6 := m1
  obtain ⟨l0, l1, l2, l3, -⟩ := hl
  have l0 : ρ 1 ≠ 0 := l0
  have l1 : ρ 2 ≠ 0 := l1
  have l2 : ρ 3 ≠ 0 := l2
  have l3 : ρ 6 ≠ 4 := l3
  obtain ⟨wl_0, wl_1, wl_2, wl_3⟩ : (ρ 1 ≠ 0) ∧ (ρ 2 ≠ 0) ∧ (ρ 3 ≠ 0) ∧ (ρ 6 ≠ 4) := ⟨by omega, by omega, by omega, by omega⟩
  show sn13 [ρ 0, ρ 1, ρ 2, ρ 3, ρ 4, ρ 5, ρ 6] (γ 0) 0 0 (γ 0)
  refine Eq.symm ?_
  show fn13 [ρ 0, ρ 1, ρ 2, ρ 3, ρ 4] (γ 0) = _
  unfold fn13
  refine (zLet_eq (show _ = ρ 0 from rfl)).trans ?_
  refine (zLet_eq (show _ = ρ 1 from rfl)).trans ?_
  refine (zLet_eq (show _ = ρ 2 from rfl)).trans ?_
  refine (zLet_eq (show _ = ρ 3 from rfl)).trans ?_
  refine (zLet_eq (show _ = ρ 4 from rfl)).trans ?_
  refine (zLet_eq m0).trans ?_
  refine (zLet_eq m1).trans ?_
  refine (if_pos wl_0).trans ?_
  refine (if_pos wl_1).trans ?_
  refine (if_pos wl_2).trans ?_
  refine (if_neg w_0).trans ?_
  refine (if_pos wl_3).trans ?_
  rfl
theorem vn13_8 {S : Nat → zSpc}  {a : List Int} {g : rHp} : ∀ (ρ : Nat → Int) (γ : Nat → rHp), zO 7 S a g q13_8 ρ γ → zGl (fun _ _ _ => True) (sn13 a g) q13_8 ρ γ := by
  intro ρ γ h
  obtain ⟨ha, hg, hr, hf, hm, hc, hl⟩ := h
  have ha : a = [ρ 0, ρ 1, ρ 2, ρ 3, ρ 4, ρ 5, ρ 6] := ha
  subst ha
  subst hg
  obtain ⟨r0, r1, r2, r3, r4, -, r6, r7, -⟩ := hr
  have r0 : ((-2147483648) : Int) ≤ ρ 0 ∧ ρ 0 ≤ 2147483647 := r0
  have r1 : ((-2147483648) : Int) ≤ ρ 1 ∧ ρ 1 ≤ 2147483647 := r1
  have r2 : ((-2147483648) : Int) ≤ ρ 2 ∧ ρ 2 ≤ 2147483647 := r2
  have r3 : ((-2147483648) : Int) ≤ ρ 3 ∧ ρ 3 ≤ 2147483647 := r3
  have r4 : (0 : Int) ≤ ρ 4 ∧ ρ 4 ≤ 0 := r4
  have r6 : (4 : Int) ≤ ρ 6 ∧ ρ 6 ≤ 4 := r6
  have r7 : ((-128) : Int) ≤ ρ 7 ∧ ρ 7 ≤ 127 := r7
  obtain ⟨w_0, w_1⟩ : (¬ (ρ 4 ≠ 0)) ∧ (¬ (ρ 6 ≠ 4)) := ⟨by omega, by omega⟩
  obtain ⟨m0, m1, m2, -⟩ := hm
  have m0 : γ 0 15 0 37 = ρ 5 := m0
  have m1 : γ 0 15 0 38 = ρ 6 := m1
  have m2 : γ 0 59 0 (ρ 5) = ρ 7 := m2
  obtain ⟨l0, l1, l2, l3, -⟩ := hl
  have l0 : ρ 1 ≠ 0 := l0
  have l1 : ρ 2 ≠ 0 := l1
  have l2 : ρ 3 ≠ 0 := l2
  have l3 : ρ 7 ≠ ρ 0 := l3
  obtain ⟨wl_0, wl_1, wl_2, wl_3⟩ : (ρ 1 ≠ 0) ∧ (ρ 2 ≠ 0) ∧ (ρ 3 ≠ 0) ∧ (ρ 7 ≠ ρ 0) := ⟨by omega, by omega, by omega, by omega⟩
  show sn13 [ρ 0, ρ 1, ρ 2, ρ 3, ρ 4, ρ 5, ρ 6] (γ 0) 0 0 (γ 0)
  refine Eq.symm ?_
  show fn13 [ρ 0, ρ 1, ρ 2, ρ 3, ρ 4] (γ 0) = _
  unfold fn13
  refine (zLet_eq (show _ = ρ 0 from rfl)).trans ?_
  refine (zLet_eq (show _ = ρ 1 from rfl)).trans ?_
  refine (zLet_eq (show _ = ρ 2 from rfl)).trans ?_
  refine (zLet_eq (show _ = ρ 3 from rfl)).trans ?_
  refine (zLet_eq (show _ = ρ 4 from rfl)).trans ?_
  refine (zLet_eq m0).trans ?_
  refine (zLet_eq m1).trans ?_
  refine (if_pos wl_0).trans ?_
  refine (if_pos wl_1).trans ?_
  refine (if_pos wl_2).trans ?_
  refine (if_neg w_0).trans ?_
  refine (if_neg w_1).trans ?_
  refine (zLet_eq m2).trans ?_
  refine (if_pos wl_3).trans ?_
  rfl
theorem vn13_9 {S : Nat → zSpc}  {a : List Int} {g : rHp} : ∀ (ρ : Nat → Int) (γ : Nat → rHp), zO 7 S a g q13_9 ρ γ → zGl (fun _ _ _ => True) (sn13 a g) q13_9 ρ γ := by
  intro ρ γ h
  obtain ⟨ha, hg, hr, hf, hm, hc, hl⟩ := h
  have ha : a = [ρ 0, ρ 1, ρ 2, ρ 3, ρ 4, ρ 5, ρ 6] := ha
  subst ha
  subst hg
  obtain ⟨-, r1, r2, r3, r4, -, r6, -, r8, -⟩ := hr
  have r1 : ((-2147483648) : Int) ≤ ρ 1 ∧ ρ 1 ≤ 2147483647 := r1
  have r2 : ((-2147483648) : Int) ≤ ρ 2 ∧ ρ 2 ≤ 2147483647 := r2
  have r3 : ((-2147483648) : Int) ≤ ρ 3 ∧ ρ 3 ≤ 2147483647 := r3
  have r4 : (0 : Int) ≤ ρ 4 ∧ ρ 4 ≤ 0 := r4
  have r6 : (4 : Int) ≤ ρ 6 ∧ ρ 6 ≤ 4 := r6
  have r8 : ((-128) : Int) ≤ ρ 8 ∧ ρ 8 ≤ 127 := r8
  obtain ⟨f0, f1, -⟩ := hf
  have f0 : (0 : Int) ≤ -ρ 7 + ρ 0 := f0
  have f1 : (0 : Int) ≤ ρ 7 + -ρ 0 := f1
  obtain ⟨w_0, w_1, w_2⟩ : (¬ (ρ 4 ≠ 0)) ∧ (¬ (ρ 6 ≠ 4)) ∧ (¬ (ρ 7 ≠ ρ 0)) := ⟨by omega, by omega, by omega⟩
  obtain ⟨m0, m1, m2, m3, -⟩ := hm
  have m0 : γ 0 15 0 37 = ρ 5 := m0
  have m1 : γ 0 15 0 38 = ρ 6 := m1
  have m2 : γ 0 59 0 (ρ 5) = ρ 7 := m2
  have m3 : γ 0 59 0 (ρ 5 + 1) = ρ 8 := m3
  obtain ⟨l0, l1, l2, l3, -⟩ := hl
  have l0 : ρ 1 ≠ 0 := l0
  have l1 : ρ 2 ≠ 0 := l1
  have l2 : ρ 3 ≠ 0 := l2
  have l3 : ρ 8 ≠ ρ 1 := l3
  obtain ⟨wl_0, wl_1, wl_2, wl_3⟩ : (ρ 1 ≠ 0) ∧ (ρ 2 ≠ 0) ∧ (ρ 3 ≠ 0) ∧ (ρ 8 ≠ ρ 1) := ⟨by omega, by omega, by omega, by omega⟩
  show sn13 [ρ 0, ρ 1, ρ 2, ρ 3, ρ 4, ρ 5, ρ 6] (γ 0) 0 0 (γ 0)
  refine Eq.symm ?_
  show fn13 [ρ 0, ρ 1, ρ 2, ρ 3, ρ 4] (γ 0) = _
  unfold fn13
  refine (zLet_eq (show _ = ρ 0 from rfl)).trans ?_
  refine (zLet_eq (show _ = ρ 1 from rfl)).trans ?_
  refine (zLet_eq (show _ = ρ 2 from rfl)).trans ?_
  refine (zLet_eq (show _ = ρ 3 from rfl)).trans ?_
  refine (zLet_eq (show _ = ρ 4 from rfl)).trans ?_
  refine (zLet_eq m0).trans ?_
  refine (zLet_eq m1).trans ?_
  refine (if_pos wl_0).trans ?_
  refine (if_pos wl_1).trans ?_
  refine (if_pos wl_2).trans ?_
  refine (if_neg w_0).trans ?_
  refine (if_neg w_1).trans ?_
  refine (zLet_eq m2).trans ?_
  refine (if_neg w_2).trans ?_
  refine (zLet_eq m3).trans ?_
  refine (if_pos wl_3).trans ?_
  rfl
theorem vn13_10 {S : Nat → zSpc}  {a : List Int} {g : rHp} : ∀ (ρ : Nat → Int) (γ : Nat → rHp), zO 7 S a g q13_10 ρ γ → zGl (fun _ _ _ => True) (sn13 a g) q13_10 ρ γ := by
  intro ρ γ h
  obtain ⟨ha, hg, hr, hf, hm, hc, hl⟩ := h
  have ha : a = [ρ 0, ρ 1, ρ 2, ρ 3, ρ 4, ρ 5, ρ 6] := ha
  subst ha
  subst hg
  obtain ⟨-, r1, r2, r3, r4, -, r6, -, r8, r9, -⟩ := hr
  have r1 : ((-2147483648) : Int) ≤ ρ 1 ∧ ρ 1 ≤ 2147483647 := r1
  have r2 : ((-2147483648) : Int) ≤ ρ 2 ∧ ρ 2 ≤ 2147483647 := r2
  have r3 : ((-2147483648) : Int) ≤ ρ 3 ∧ ρ 3 ≤ 2147483647 := r3
  have r4 : (0 : Int) ≤ ρ 4 ∧ ρ 4 ≤ 0 := r4
  have r6 : (4 : Int) ≤ ρ 6 ∧ ρ 6 ≤ 4 := r6
  have r8 : ((-128) : Int) ≤ ρ 8 ∧ ρ 8 ≤ 127 := r8
  have r9 : ((-128) : Int) ≤ ρ 9 ∧ ρ 9 ≤ 127 := r9
  obtain ⟨f0, f1, f2, f3, -⟩ := hf
  have f0 : (0 : Int) ≤ -ρ 8 + ρ 1 := f0
  have f1 : (0 : Int) ≤ ρ 8 + -ρ 1 := f1
  have f2 : (0 : Int) ≤ -ρ 7 + ρ 0 := f2
  have f3 : (0 : Int) ≤ ρ 7 + -ρ 0 := f3
  obtain ⟨w_0, w_1, w_2, w_3⟩ : (¬ (ρ 4 ≠ 0)) ∧ (¬ (ρ 6 ≠ 4)) ∧ (¬ (ρ 7 ≠ ρ 0)) ∧ (¬ (ρ 8 ≠ ρ 1)) := ⟨by omega, by omega, by omega, by omega⟩
  obtain ⟨m0, m1, m2, m3, m4, -⟩ := hm
  have m0 : γ 0 15 0 37 = ρ 5 := m0
  have m1 : γ 0 15 0 38 = ρ 6 := m1
  have m2 : γ 0 59 0 (ρ 5) = ρ 7 := m2
  have m3 : γ 0 59 0 (ρ 5 + 1) = ρ 8 := m3
  have m4 : γ 0 59 0 (ρ 5 + 2) = ρ 9 := m4
  obtain ⟨l0, l1, l2, l3, -⟩ := hl
  have l0 : ρ 1 ≠ 0 := l0
  have l1 : ρ 2 ≠ 0 := l1
  have l2 : ρ 3 ≠ 0 := l2
  have l3 : ρ 9 ≠ ρ 2 := l3
  obtain ⟨wl_0, wl_1, wl_2, wl_3⟩ : (ρ 1 ≠ 0) ∧ (ρ 2 ≠ 0) ∧ (ρ 3 ≠ 0) ∧ (ρ 9 ≠ ρ 2) := ⟨by omega, by omega, by omega, by omega⟩
  show sn13 [ρ 0, ρ 1, ρ 2, ρ 3, ρ 4, ρ 5, ρ 6] (γ 0) 0 0 (γ 0)
  refine Eq.symm ?_
  show fn13 [ρ 0, ρ 1, ρ 2, ρ 3, ρ 4] (γ 0) = _
  unfold fn13
  refine (zLet_eq (show _ = ρ 0 from rfl)).trans ?_
  refine (zLet_eq (show _ = ρ 1 from rfl)).trans ?_
  refine (zLet_eq (show _ = ρ 2 from rfl)).trans ?_
  refine (zLet_eq (show _ = ρ 3 from rfl)).trans ?_
  refine (zLet_eq (show _ = ρ 4 from rfl)).trans ?_
  refine (zLet_eq m0).trans ?_
  refine (zLet_eq m1).trans ?_
  refine (if_pos wl_0).trans ?_
  refine (if_pos wl_1).trans ?_
  refine (if_pos wl_2).trans ?_
  refine (if_neg w_0).trans ?_
  refine (if_neg w_1).trans ?_
  refine (zLet_eq m2).trans ?_
  refine (if_neg w_2).trans ?_
  refine (zLet_eq m3).trans ?_
  refine (if_neg w_3).trans ?_
  refine (zLet_eq m4).trans ?_
  refine (if_pos wl_3).trans ?_
  rfl
theorem vn13_11 {S : Nat → zSpc}  {a : List Int} {g : rHp} : ∀ (ρ : Nat → Int) (γ : Nat → rHp), zO 7 S a g q13_11 ρ γ → zGl (fun _ _ _ => True) (sn13 a g) q13_11 ρ γ := by
  intro ρ γ h
  obtain ⟨ha, hg, hr, hf, hm, hc, hl⟩ := h
  have ha : a = [ρ 0, ρ 1, ρ 2, ρ 3, ρ 4, ρ 5, ρ 6] := ha
  subst ha
  subst hg
  obtain ⟨-, r1, r2, r3, r4, -, r6, -, r8, r9, r10, -⟩ := hr
  have r1 : ((-2147483648) : Int) ≤ ρ 1 ∧ ρ 1 ≤ 2147483647 := r1
  have r2 : ((-2147483648) : Int) ≤ ρ 2 ∧ ρ 2 ≤ 2147483647 := r2
  have r3 : ((-2147483648) : Int) ≤ ρ 3 ∧ ρ 3 ≤ 2147483647 := r3
  have r4 : (0 : Int) ≤ ρ 4 ∧ ρ 4 ≤ 0 := r4
  have r6 : (4 : Int) ≤ ρ 6 ∧ ρ 6 ≤ 4 := r6
  have r8 : ((-128) : Int) ≤ ρ 8 ∧ ρ 8 ≤ 127 := r8
  have r9 : ((-128) : Int) ≤ ρ 9 ∧ ρ 9 ≤ 127 := r9
  have r10 : ((-128) : Int) ≤ ρ 10 ∧ ρ 10 ≤ 127 := r10
  obtain ⟨f0, f1, f2, f3, f4, f5, -⟩ := hf
  have f0 : (0 : Int) ≤ -ρ 9 + ρ 2 := f0
  have f1 : (0 : Int) ≤ ρ 9 + -ρ 2 := f1
  have f2 : (0 : Int) ≤ -ρ 8 + ρ 1 := f2
  have f3 : (0 : Int) ≤ ρ 8 + -ρ 1 := f3
  have f4 : (0 : Int) ≤ -ρ 7 + ρ 0 := f4
  have f5 : (0 : Int) ≤ ρ 7 + -ρ 0 := f5
  obtain ⟨w_0, w_1, w_2, w_3, w_4⟩ : (¬ (ρ 4 ≠ 0)) ∧ (¬ (ρ 6 ≠ 4)) ∧ (¬ (ρ 7 ≠ ρ 0)) ∧ (¬ (ρ 8 ≠ ρ 1)) ∧ (¬ (ρ 9 ≠ ρ 2)) := ⟨by clear r1 r2 r3 r6 r8 r9 r10 f0 f1 f2 f3 f4 f5; omega, by clear r1 r2 r3 r4 r8 r9 r10 f0 f1 f2 f3 f4 f5; omega, by clear r1 r2 r3 r4 r6 r8 r9 r10 f0 f1 f2 f3; omega, by clear r1 r2 r3 r4 r6 r8 r9 r10 f0 f1 f4 f5; omega, by clear r1 r2 r3 r4 r6 r8 r9 r10 f2 f3 f4 f5; omega⟩
  obtain ⟨m0, m1, m2, m3, m4, m5, -⟩ := hm
  have m0 : γ 0 15 0 37 = ρ 5 := m0
  have m1 : γ 0 15 0 38 = ρ 6 := m1
  have m2 : γ 0 59 0 (ρ 5) = ρ 7 := m2
  have m3 : γ 0 59 0 (ρ 5 + 1) = ρ 8 := m3
  have m4 : γ 0 59 0 (ρ 5 + 2) = ρ 9 := m4
  have m5 : γ 0 59 0 (ρ 5 + 3) = ρ 10 := m5
  obtain ⟨l0, l1, l2, l3, -⟩ := hl
  have l0 : ρ 1 ≠ 0 := l0
  have l1 : ρ 2 ≠ 0 := l1
  have l2 : ρ 3 ≠ 0 := l2
  have l3 : ρ 10 ≠ ρ 3 := l3
  obtain ⟨wl_0, wl_1, wl_2, wl_3⟩ : (ρ 1 ≠ 0) ∧ (ρ 2 ≠ 0) ∧ (ρ 3 ≠ 0) ∧ (ρ 10 ≠ ρ 3) := ⟨by omega, by omega, by omega, by omega⟩
  show sn13 [ρ 0, ρ 1, ρ 2, ρ 3, ρ 4, ρ 5, ρ 6] (γ 0) 0 0 (γ 0)
  refine Eq.symm ?_
  show fn13 [ρ 0, ρ 1, ρ 2, ρ 3, ρ 4] (γ 0) = _
  unfold fn13
  refine (zLet_eq (show _ = ρ 0 from rfl)).trans ?_
  refine (zLet_eq (show _ = ρ 1 from rfl)).trans ?_
  refine (zLet_eq (show _ = ρ 2 from rfl)).trans ?_
  refine (zLet_eq (show _ = ρ 3 from rfl)).trans ?_
  refine (zLet_eq (show _ = ρ 4 from rfl)).trans ?_
  refine (zLet_eq m0).trans ?_
  refine (zLet_eq m1).trans ?_
  refine (if_pos wl_0).trans ?_
  refine (if_pos wl_1).trans ?_
  refine (if_pos wl_2).trans ?_
  refine (if_neg w_0).trans ?_
  refine (if_neg w_1).trans ?_
  refine (zLet_eq m2).trans ?_
  refine (if_neg w_2).trans ?_
  refine (zLet_eq m3).trans ?_
  refine (if_neg w_3).trans ?_
  refine (zLet_eq m4).trans ?_
  refine (if_neg w_4).trans ?_
  refine (zLet_eq m5).trans ?_
  refine (if_pos wl_3).trans ?_
  rfl
theorem vn13_12 {S : Nat → zSpc}  {a : List Int} {g : rHp} : ∀ (ρ : Nat → Int) (γ : Nat → rHp), zO 7 S a g q13_12 ρ γ → zGl (fun _ _ _ => True) (sn13 a g) q13_12 ρ γ := by
  intro ρ γ h
  obtain ⟨ha, hg, hr, hf, hm, hc, hl⟩ := h
  have ha : a = [ρ 0, ρ 1, ρ 2, ρ 3, ρ 4, ρ 5, ρ 6] := ha
  subst ha
  subst hg
  obtain ⟨-, r1, r2, r3, r4, -, r6, -, r8, r9, r10, -⟩ := hr
  have r1 : ((-2147483648) : Int) ≤ ρ 1 ∧ ρ 1 ≤ 2147483647 := r1
  have r2 : ((-2147483648) : Int) ≤ ρ 2 ∧ ρ 2 ≤ 2147483647 := r2
  have r3 : ((-2147483648) : Int) ≤ ρ 3 ∧ ρ 3 ≤ 2147483647 := r3
  have r4 : (0 : Int) ≤ ρ 4 ∧ ρ 4 ≤ 0 := r4
  have r6 : (4 : Int) ≤ ρ 6 ∧ ρ 6 ≤ 4 := r6
  have r8 : ((-128) : Int) ≤ ρ 8 ∧ ρ 8 ≤ 127 := r8
  have r9 : ((-128) : Int) ≤ ρ 9 ∧ ρ 9 ≤ 127 := r9
  have r10 : ((-128) : Int) ≤ ρ 10 ∧ ρ 10 ≤ 127 := r10
  obtain ⟨f0, f1, f2, f3, f4, f5, f6, f7, -⟩ := hf
  have f0 : (0 : Int) ≤ -ρ 10 + ρ 3 := f0
  have f1 : (0 : Int) ≤ ρ 10 + -ρ 3 := f1
  have f2 : (0 : Int) ≤ -ρ 9 + ρ 2 := f2
  have f3 : (0 : Int) ≤ ρ 9 + -ρ 2 := f3
  have f4 : (0 : Int) ≤ -ρ 8 + ρ 1 := f4
  have f5 : (0 : Int) ≤ ρ 8 + -ρ 1 := f5
  have f6 : (0 : Int) ≤ -ρ 7 + ρ 0 := f6
  have f7 : (0 : Int) ≤ ρ 7 + -ρ 0 := f7
  obtain ⟨w_0, w_1, w_2, w_3, w_4, w_5⟩ : (¬ (ρ 4 ≠ 0)) ∧ (¬ (ρ 6 ≠ 4)) ∧ (¬ (ρ 7 ≠ ρ 0)) ∧ (¬ (ρ 8 ≠ ρ 1)) ∧ (¬ (ρ 9 ≠ ρ 2)) ∧ (¬ (ρ 10 ≠ ρ 3)) := ⟨by clear r1 r2 r3 r6 r8 r9 r10 f0 f1 f2 f3 f4 f5 f6 f7; omega, by clear r1 r2 r3 r4 r8 r9 r10 f0 f1 f2 f3 f4 f5 f6 f7; omega, by clear r1 r2 r3 r4 r6 r8 r9 r10 f0 f1 f2 f3 f4 f5; omega, by clear r1 r2 r3 r4 r6 r8 r9 r10 f0 f1 f2 f3 f6 f7; omega, by clear r1 r2 r3 r4 r6 r8 r9 r10 f0 f1 f4 f5 f6 f7; omega, by clear r1 r2 r3 r4 r6 r8 r9 r10 f2 f3 f4 f5 f6 f7; omega⟩
  obtain ⟨m0, m1, m2, m3, m4, m5, -⟩ := hm
  have m0 : γ 0 15 0 37 = ρ 5 := m0
  have m1 : γ 0 15 0 38 = ρ 6 := m1
  have m2 : γ 0 59 0 (ρ 5) = ρ 7 := m2
  have m3 : γ 0 59 0 (ρ 5 + 1) = ρ 8 := m3
  have m4 : γ 0 59 0 (ρ 5 + 2) = ρ 9 := m4
  have m5 : γ 0 59 0 (ρ 5 + 3) = ρ 10 := m5
  obtain ⟨l0, l1, l2, -⟩ := hl
  have l0 : ρ 1 ≠ 0 := l0
  have l1 : ρ 2 ≠ 0 := l1
  have l2 : ρ 3 ≠ 0 := l2
  obtain ⟨wl_0, wl_1, wl_2⟩ : (ρ 1 ≠ 0) ∧ (ρ 2 ≠ 0) ∧ (ρ 3 ≠ 0) := ⟨by omega, by omega, by omega⟩
  show sn13 [ρ 0, ρ 1, ρ 2, ρ 3, ρ 4, ρ 5, ρ 6] (γ 0) 0 1 (γ 0)
  refine Eq.symm ?_
  show fn13 [ρ 0, ρ 1, ρ 2, ρ 3, ρ 4] (γ 0) = _
  unfold fn13
  refine (zLet_eq (show _ = ρ 0 from rfl)).trans ?_
  refine (zLet_eq (show _ = ρ 1 from rfl)).trans ?_
  refine (zLet_eq (show _ = ρ 2 from rfl)).trans ?_
  refine (zLet_eq (show _ = ρ 3 from rfl)).trans ?_
  refine (zLet_eq (show _ = ρ 4 from rfl)).trans ?_
  refine (zLet_eq m0).trans ?_
  refine (zLet_eq m1).trans ?_
  refine (if_pos wl_0).trans ?_
  refine (if_pos wl_1).trans ?_
  refine (if_pos wl_2).trans ?_
  refine (if_neg w_0).trans ?_
  refine (if_neg w_1).trans ?_
  refine (zLet_eq m2).trans ?_
  refine (if_neg w_2).trans ?_
  refine (zLet_eq m3).trans ?_
  refine (if_neg w_3).trans ?_
  refine (zLet_eq m4).trans ?_
  refine (if_neg w_4).trans ?_
  refine (zLet_eq m5).trans ?_
  refine (if_neg w_5).trans ?_
  rfl
theorem vn13_13 {S : Nat → zSpc}  {a : List Int} {g : rHp} : ∀ (ρ : Nat → Int) (γ : Nat → rHp), zO 7 S a g q13_13 ρ γ → zGl (fun _ _ _ => True) (sn13 a g) q13_13 ρ γ := by
  intro ρ γ h
  obtain ⟨ha, hg, hr, hf, hm, hc, hl⟩ := h
  have ha : a = [ρ 0, ρ 1, ρ 2, ρ 3, ρ 4, ρ 5, ρ 6] := ha
  subst ha
  subst hg
  obtain ⟨-, r1, r2, r3, -, r5, r6, -⟩ := hr
  have r1 : ((-2147483648) : Int) ≤ ρ 1 ∧ ρ 1 ≤ 2147483647 := r1
  have r2 : ((-2147483648) : Int) ≤ ρ 2 ∧ ρ 2 ≤ 2147483647 := r2
  have r3 : (0 : Int) ≤ ρ 3 ∧ ρ 3 ≤ 0 := r3
  have r5 : (0 : Int) ≤ ρ 5 ∧ ρ 5 ≤ 2000 := r5
  have r6 : (0 : Int) ≤ ρ 6 ∧ ρ 6 ≤ 2000 := r6
  obtain ⟨f0, -⟩ := hf
  have f0 : (0 : Int) ≤ -ρ 6 + -ρ 5 + 2000 := f0
  have w_0 : ¬ (ρ 3 ≠ 0) := by omega
  obtain ⟨m0, m1, -⟩ := hm
  have m0 : γ 0 15 0 37 = ρ 5 := m0
  have m1 : γ 0 15 0 38 = ρ 6 := m1
  obtain ⟨l0, l1, l2, -⟩ := hl
  have l0 : ρ 1 ≠ 0 := l0
  have l1 : ρ 2 ≠ 0 := l1
  have l2 : ρ 6 ≠ 3 := l2
  obtain ⟨wl_0, wl_1, wl_2⟩ : (ρ 1 ≠ 0) ∧ (ρ 2 ≠ 0) ∧ (ρ 6 ≠ 3) := ⟨by omega, by omega, by omega⟩
  show sn13 [ρ 0, ρ 1, ρ 2, ρ 3, ρ 4, ρ 5, ρ 6] (γ 0) 0 0 (γ 0)
  refine Eq.symm ?_
  show fn13 [ρ 0, ρ 1, ρ 2, ρ 3, ρ 4] (γ 0) = _
  unfold fn13
  refine (zLet_eq (show _ = ρ 0 from rfl)).trans ?_
  refine (zLet_eq (show _ = ρ 1 from rfl)).trans ?_
  refine (zLet_eq (show _ = ρ 2 from rfl)).trans ?_
  refine (zLet_eq (show _ = ρ 3 from rfl)).trans ?_
  refine (zLet_eq (show _ = ρ 4 from rfl)).trans ?_
  refine (zLet_eq m0).trans ?_
  refine (zLet_eq m1).trans ?_
  refine (if_pos wl_0).trans ?_
  refine (if_pos wl_1).trans ?_
  refine (if_neg w_0).trans ?_
  refine (if_pos wl_2).trans ?_
  rfl
theorem vn13_14 {S : Nat → zSpc}  {a : List Int} {g : rHp} : ∀ (ρ : Nat → Int) (γ : Nat → rHp), zO 7 S a g q13_14 ρ γ → zGl (fun _ _ _ => True) (sn13 a g) q13_14 ρ γ := by
  intro ρ γ h
  obtain ⟨ha, hg, hr, hf, hm, hc, hl⟩ := h
  have ha : a = [ρ 0, ρ 1, ρ 2, ρ 3, ρ 4, ρ 5, ρ 6] := ha
  subst ha
  subst hg
  obtain ⟨r0, r1, r2, r3, -, -, r6, r7, -⟩ := hr
  have r0 : ((-2147483648) : Int) ≤ ρ 0 ∧ ρ 0 ≤ 2147483647 := r0
  have r1 : ((-2147483648) : Int) ≤ ρ 1 ∧ ρ 1 ≤ 2147483647 := r1
  have r2 : ((-2147483648) : Int) ≤ ρ 2 ∧ ρ 2 ≤ 2147483647 := r2
  have r3 : (0 : Int) ≤ ρ 3 ∧ ρ 3 ≤ 0 := r3
  have r6 : (3 : Int) ≤ ρ 6 ∧ ρ 6 ≤ 3 := r6
  have r7 : ((-128) : Int) ≤ ρ 7 ∧ ρ 7 ≤ 127 := r7
  obtain ⟨w_0, w_1⟩ : (¬ (ρ 3 ≠ 0)) ∧ (¬ (ρ 6 ≠ 3)) := ⟨by omega, by omega⟩
  obtain ⟨m0, m1, m2, -⟩ := hm
  have m0 : γ 0 15 0 37 = ρ 5 := m0
  have m1 : γ 0 15 0 38 = ρ 6 := m1
  have m2 : γ 0 59 0 (ρ 5) = ρ 7 := m2
  obtain ⟨l0, l1, l2, -⟩ := hl
  have l0 : ρ 1 ≠ 0 := l0
  have l1 : ρ 2 ≠ 0 := l1
  have l2 : ρ 7 ≠ ρ 0 := l2
  obtain ⟨wl_0, wl_1, wl_2⟩ : (ρ 1 ≠ 0) ∧ (ρ 2 ≠ 0) ∧ (ρ 7 ≠ ρ 0) := ⟨by omega, by omega, by omega⟩
  show sn13 [ρ 0, ρ 1, ρ 2, ρ 3, ρ 4, ρ 5, ρ 6] (γ 0) 0 0 (γ 0)
  refine Eq.symm ?_
  show fn13 [ρ 0, ρ 1, ρ 2, ρ 3, ρ 4] (γ 0) = _
  unfold fn13
  refine (zLet_eq (show _ = ρ 0 from rfl)).trans ?_
  refine (zLet_eq (show _ = ρ 1 from rfl)).trans ?_
  refine (zLet_eq (show _ = ρ 2 from rfl)).trans ?_
  refine (zLet_eq (show _ = ρ 3 from rfl)).trans ?_
  refine (zLet_eq (show _ = ρ 4 from rfl)).trans ?_
  refine (zLet_eq m0).trans ?_
  refine (zLet_eq m1).trans ?_
  refine (if_pos wl_0).trans ?_
  refine (if_pos wl_1).trans ?_
  refine (if_neg w_0).trans ?_
  refine (if_neg w_1).trans ?_
  refine (zLet_eq m2).trans ?_
  refine (if_pos wl_2).trans ?_
  rfl
theorem vn13_15 {S : Nat → zSpc}  {a : List Int} {g : rHp} : ∀ (ρ : Nat → Int) (γ : Nat → rHp), zO 7 S a g q13_15 ρ γ → zGl (fun _ _ _ => True) (sn13 a g) q13_15 ρ γ := by
  intro ρ γ h
  obtain ⟨ha, hg, hr, hf, hm, hc, hl⟩ := h
  have ha : a = [ρ 0, ρ 1, ρ 2, ρ 3, ρ 4, ρ 5, ρ 6] := ha
  subst ha
  subst hg
  obtain ⟨-, r1, r2, r3, -, -, r6, -, r8, -⟩ := hr
  have r1 : ((-2147483648) : Int) ≤ ρ 1 ∧ ρ 1 ≤ 2147483647 := r1
  have r2 : ((-2147483648) : Int) ≤ ρ 2 ∧ ρ 2 ≤ 2147483647 := r2
  have r3 : (0 : Int) ≤ ρ 3 ∧ ρ 3 ≤ 0 := r3
  have r6 : (3 : Int) ≤ ρ 6 ∧ ρ 6 ≤ 3 := r6
  have r8 : ((-128) : Int) ≤ ρ 8 ∧ ρ 8 ≤ 127 := r8
  obtain ⟨f0, f1, -⟩ := hf
  have f0 : (0 : Int) ≤ -ρ 7 + ρ 0 := f0
  have f1 : (0 : Int) ≤ ρ 7 + -ρ 0 := f1
  obtain ⟨w_0, w_1, w_2⟩ : (¬ (ρ 3 ≠ 0)) ∧ (¬ (ρ 6 ≠ 3)) ∧ (¬ (ρ 7 ≠ ρ 0)) := ⟨by omega, by omega, by omega⟩
  obtain ⟨m0, m1, m2, m3, -⟩ := hm
  have m0 : γ 0 15 0 37 = ρ 5 := m0
  have m1 : γ 0 15 0 38 = ρ 6 := m1
  have m2 : γ 0 59 0 (ρ 5) = ρ 7 := m2
  have m3 : γ 0 59 0 (ρ 5 + 1) = ρ 8 := m3
  obtain ⟨l0, l1, l2, -⟩ := hl
  have l0 : ρ 1 ≠ 0 := l0
  have l1 : ρ 2 ≠ 0 := l1
  have l2 : ρ 8 ≠ ρ 1 := l2
  obtain ⟨wl_0, wl_1, wl_2⟩ : (ρ 1 ≠ 0) ∧ (ρ 2 ≠ 0) ∧ (ρ 8 ≠ ρ 1) := ⟨by omega, by omega, by omega⟩
  show sn13 [ρ 0, ρ 1, ρ 2, ρ 3, ρ 4, ρ 5, ρ 6] (γ 0) 0 0 (γ 0)
  refine Eq.symm ?_
  show fn13 [ρ 0, ρ 1, ρ 2, ρ 3, ρ 4] (γ 0) = _
  unfold fn13
  refine (zLet_eq (show _ = ρ 0 from rfl)).trans ?_
  refine (zLet_eq (show _ = ρ 1 from rfl)).trans ?_
  refine (zLet_eq (show _ = ρ 2 from rfl)).trans ?_
  refine (zLet_eq (show _ = ρ 3 from rfl)).trans ?_
  refine (zLet_eq (show _ = ρ 4 from rfl)).trans ?_
  refine (zLet_eq m0).trans ?_
  refine (zLet_eq m1).trans ?_
  refine (if_pos wl_0).trans ?_
  refine (if_pos wl_1).trans ?_
  refine (if_neg w_0).trans ?_
  refine (if_neg w_1).trans ?_
  refine (zLet_eq m2).trans ?_
  refine (if_neg w_2).trans ?_
  refine (zLet_eq m3).trans ?_
  refine (if_pos wl_2).trans ?_
  rfl
theorem vn13_16 {S : Nat → zSpc}  {a : List Int} {g : rHp} : ∀ (ρ : Nat → Int) (γ : Nat → rHp), zO 7 S a g q13_16 ρ γ → zGl (fun _ _ _ => True) (sn13 a g) q13_16 ρ γ := by
  intro ρ γ h
  obtain ⟨ha, hg, hr, hf, hm, hc, hl⟩ := h
  have ha : a = [ρ 0, ρ 1, ρ 2, ρ 3, ρ 4, ρ 5, ρ 6] := ha
  subst ha
  subst hg
  obtain ⟨-, r1, r2, r3, -, -, r6, -, r8, r9, -⟩ := hr
  have r1 : ((-2147483648) : Int) ≤ ρ 1 ∧ ρ 1 ≤ 2147483647 := r1
  have r2 : ((-2147483648) : Int) ≤ ρ 2 ∧ ρ 2 ≤ 2147483647 := r2
  have r3 : (0 : Int) ≤ ρ 3 ∧ ρ 3 ≤ 0 := r3
  have r6 : (3 : Int) ≤ ρ 6 ∧ ρ 6 ≤ 3 := r6
  have r8 : ((-128) : Int) ≤ ρ 8 ∧ ρ 8 ≤ 127 := r8
  have r9 : ((-128) : Int) ≤ ρ 9 ∧ ρ 9 ≤ 127 := r9
  obtain ⟨f0, f1, f2, f3, -⟩ := hf
  have f0 : (0 : Int) ≤ -ρ 8 + ρ 1 := f0
  have f1 : (0 : Int) ≤ ρ 8 + -ρ 1 := f1
  have f2 : (0 : Int) ≤ -ρ 7 + ρ 0 := f2
  have f3 : (0 : Int) ≤ ρ 7 + -ρ 0 := f3
  obtain ⟨w_0, w_1, w_2, w_3⟩ : (¬ (ρ 3 ≠ 0)) ∧ (¬ (ρ 6 ≠ 3)) ∧ (¬ (ρ 7 ≠ ρ 0)) ∧ (¬ (ρ 8 ≠ ρ 1)) := ⟨by omega, by omega, by omega, by omega⟩
  obtain ⟨m0, m1, m2, m3, m4, -⟩ := hm
  have m0 : γ 0 15 0 37 = ρ 5 := m0
  have m1 : γ 0 15 0 38 = ρ 6 := m1
  have m2 : γ 0 59 0 (ρ 5) = ρ 7 := m2
  have m3 : γ 0 59 0 (ρ 5 + 1) = ρ 8 := m3
  have m4 : γ 0 59 0 (ρ 5 + 2) = ρ 9 := m4
  obtain ⟨l0, l1, l2, -⟩ := hl
  have l0 : ρ 1 ≠ 0 := l0
  have l1 : ρ 2 ≠ 0 := l1
  have l2 : ρ 9 ≠ ρ 2 := l2
  obtain ⟨wl_0, wl_1, wl_2⟩ : (ρ 1 ≠ 0) ∧ (ρ 2 ≠ 0) ∧ (ρ 9 ≠ ρ 2) := ⟨by omega, by omega, by omega⟩
  show sn13 [ρ 0, ρ 1, ρ 2, ρ 3, ρ 4, ρ 5, ρ 6] (γ 0) 0 0 (γ 0)
  refine Eq.symm ?_
  show fn13 [ρ 0, ρ 1, ρ 2, ρ 3, ρ 4] (γ 0) = _
  unfold fn13
  refine (zLet_eq (show _ = ρ 0 from rfl)).trans ?_
  refine (zLet_eq (show _ = ρ 1 from rfl)).trans ?_
  refine (zLet_eq (show _ = ρ 2 from rfl)).trans ?_
  refine (zLet_eq (show _ = ρ 3 from rfl)).trans ?_
  refine (zLet_eq (show _ = ρ 4 from rfl)).trans ?_
  refine (zLet_eq m0).trans ?_
  refine (zLet_eq m1).trans ?_
  refine (if_pos wl_0).trans ?_
  refine (if_pos wl_1).trans ?_
  refine (if_neg w_0).trans ?_
  refine (if_neg w_1).trans ?_
  refine (zLet_eq m2).trans ?_
  refine (if_neg w_2).trans ?_
  refine (zLet_eq m3).trans ?_
  refine (if_neg w_3).trans ?_
  refine (zLet_eq m4).trans ?_
  refine (if_pos wl_2).trans ?_
  rfl
theorem vn13_17 {S : Nat → zSpc}  {a : List Int} {g : rHp} : ∀ (ρ : Nat → Int) (γ : Nat → rHp), zO 7 S a g q13_17 ρ γ → zGl (fun _ _ _ => True) (sn13 a g) q13_17 ρ γ := by
  intro ρ γ h
  obtain ⟨ha, hg, hr, hf, hm, hc, hl⟩ := h
  have ha : a = [ρ 0, ρ 1, ρ 2, ρ 3, ρ 4, ρ 5, ρ 6] := ha
  subst ha
  subst hg
  obtain ⟨-, r1, r2, r3, -, -, r6, -, r8, r9, -⟩ := hr
  have r1 : ((-2147483648) : Int) ≤ ρ 1 ∧ ρ 1 ≤ 2147483647 := r1
  have r2 : ((-2147483648) : Int) ≤ ρ 2 ∧ ρ 2 ≤ 2147483647 := r2
  have r3 : (0 : Int) ≤ ρ 3 ∧ ρ 3 ≤ 0 := r3
  have r6 : (3 : Int) ≤ ρ 6 ∧ ρ 6 ≤ 3 := r6
  have r8 : ((-128) : Int) ≤ ρ 8 ∧ ρ 8 ≤ 127 := r8
  have r9 : ((-128) : Int) ≤ ρ 9 ∧ ρ 9 ≤ 127 := r9
  obtain ⟨f0, f1, f2, f3, f4, f5, -⟩ := hf
  have f0 : (0 : Int) ≤ -ρ 9 + ρ 2 := f0
  have f1 : (0 : Int) ≤ ρ 9 + -ρ 2 := f1
  have f2 : (0 : Int) ≤ -ρ 8 + ρ 1 := f2
  have f3 : (0 : Int) ≤ ρ 8 + -ρ 1 := f3
  have f4 : (0 : Int) ≤ -ρ 7 + ρ 0 := f4
  have f5 : (0 : Int) ≤ ρ 7 + -ρ 0 := f5
  obtain ⟨w_0, w_1, w_2, w_3, w_4⟩ : (¬ (ρ 3 ≠ 0)) ∧ (¬ (ρ 6 ≠ 3)) ∧ (¬ (ρ 7 ≠ ρ 0)) ∧ (¬ (ρ 8 ≠ ρ 1)) ∧ (¬ (ρ 9 ≠ ρ 2)) := ⟨by omega, by omega, by omega, by omega, by omega⟩
  obtain ⟨m0, m1, m2, m3, m4, -⟩ := hm
  have m0 : γ 0 15 0 37 = ρ 5 := m0
  have m1 : γ 0 15 0 38 = ρ 6 := m1
  have m2 : γ 0 59 0 (ρ 5) = ρ 7 := m2
  have m3 : γ 0 59 0 (ρ 5 + 1) = ρ 8 := m3
  have m4 : γ 0 59 0 (ρ 5 + 2) = ρ 9 := m4
  obtain ⟨l0, l1, -⟩ := hl
  have l0 : ρ 1 ≠ 0 := l0
  have l1 : ρ 2 ≠ 0 := l1
  obtain ⟨wl_0, wl_1⟩ : (ρ 1 ≠ 0) ∧ (ρ 2 ≠ 0) := ⟨by omega, by omega⟩
  show sn13 [ρ 0, ρ 1, ρ 2, ρ 3, ρ 4, ρ 5, ρ 6] (γ 0) 0 1 (γ 0)
  refine Eq.symm ?_
  show fn13 [ρ 0, ρ 1, ρ 2, ρ 3, ρ 4] (γ 0) = _
  unfold fn13
  refine (zLet_eq (show _ = ρ 0 from rfl)).trans ?_
  refine (zLet_eq (show _ = ρ 1 from rfl)).trans ?_
  refine (zLet_eq (show _ = ρ 2 from rfl)).trans ?_
  refine (zLet_eq (show _ = ρ 3 from rfl)).trans ?_
  refine (zLet_eq (show _ = ρ 4 from rfl)).trans ?_
  refine (zLet_eq m0).trans ?_
  refine (zLet_eq m1).trans ?_
  refine (if_pos wl_0).trans ?_
  refine (if_pos wl_1).trans ?_
  refine (if_neg w_0).trans ?_
  refine (if_neg w_1).trans ?_
  refine (zLet_eq m2).trans ?_
  refine (if_neg w_2).trans ?_
  refine (zLet_eq m3).trans ?_
  refine (if_neg w_3).trans ?_
  refine (zLet_eq m4).trans ?_
  refine (if_neg w_4).trans ?_
  rfl
theorem vn13_18 {S : Nat → zSpc}  {a : List Int} {g : rHp} : ∀ (ρ : Nat → Int) (γ : Nat → rHp), zO 7 S a g q13_18 ρ γ → zGl (fun _ _ _ => True) (sn13 a g) q13_18 ρ γ := by
  intro ρ γ h
  obtain ⟨ha, hg, hr, hf, hm, hc, hl⟩ := h
  have ha : a = [ρ 0, ρ 1, ρ 2, ρ 3, ρ 4, ρ 5, ρ 6] := ha
  subst ha
  subst hg
  obtain ⟨-, r1, r2, -, -, r5, r6, -⟩ := hr
  have r1 : ((-2147483648) : Int) ≤ ρ 1 ∧ ρ 1 ≤ 2147483647 := r1
  have r2 : (0 : Int) ≤ ρ 2 ∧ ρ 2 ≤ 0 := r2
  have r5 : (0 : Int) ≤ ρ 5 ∧ ρ 5 ≤ 2000 := r5
  have r6 : (0 : Int) ≤ ρ 6 ∧ ρ 6 ≤ 2000 := r6
  obtain ⟨f0, -⟩ := hf
  have f0 : (0 : Int) ≤ -ρ 6 + -ρ 5 + 2000 := f0
  have w_0 : ¬ (ρ 2 ≠ 0) := by omega
  obtain ⟨m0, m1, -⟩ := hm
  have m0 : γ 0 15 0 37 = ρ 5 := m0
  have m1 : γ 0 15 0 38 = ρ 6 := m1
  obtain ⟨l0, l1, -⟩ := hl
  have l0 : ρ 1 ≠ 0 := l0
  have l1 : ρ 6 ≠ 2 := l1
  obtain ⟨wl_0, wl_1⟩ : (ρ 1 ≠ 0) ∧ (ρ 6 ≠ 2) := ⟨by omega, by omega⟩
  show sn13 [ρ 0, ρ 1, ρ 2, ρ 3, ρ 4, ρ 5, ρ 6] (γ 0) 0 0 (γ 0)
  refine Eq.symm ?_
  show fn13 [ρ 0, ρ 1, ρ 2, ρ 3, ρ 4] (γ 0) = _
  unfold fn13
  refine (zLet_eq (show _ = ρ 0 from rfl)).trans ?_
  refine (zLet_eq (show _ = ρ 1 from rfl)).trans ?_
  refine (zLet_eq (show _ = ρ 2 from rfl)).trans ?_
  refine (zLet_eq (show _ = ρ 3 from rfl)).trans ?_
  refine (zLet_eq (show _ = ρ 4 from rfl)).trans ?_
  refine (zLet_eq m0).trans ?_
  refine (zLet_eq m1).trans ?_
  refine (if_pos wl_0).trans ?_
  refine (if_neg w_0).trans ?_
  refine (if_pos wl_1).trans ?_
  rfl
theorem vn13_19 {S : Nat → zSpc}  {a : List Int} {g : rHp} : ∀ (ρ : Nat → Int) (γ : Nat → rHp), zO 7 S a g q13_19 ρ γ → zGl (fun _ _ _ => True) (sn13 a g) q13_19 ρ γ := by
  intro ρ γ h
  obtain ⟨ha, hg, hr, hf, hm, hc, hl⟩ := h
  have ha : a = [ρ 0, ρ 1, ρ 2, ρ 3, ρ 4, ρ 5, ρ 6] := ha
  subst ha
  subst hg
  obtain ⟨r0, r1, r2, -, -, -, r6, r7, -⟩ := hr
  have r0 : ((-2147483648) : Int) ≤ ρ 0 ∧ ρ 0 ≤ 2147483647 := r0
  have r1 : ((-2147483648) : Int) ≤ ρ 1 ∧ ρ 1 ≤ 2147483647 := r1
  have r2 : (0 : Int) ≤ ρ 2 ∧ ρ 2 ≤ 0 := r2
  have r6 : (2 : Int) ≤ ρ 6 ∧ ρ 6 ≤ 2 := r6
  have r7 : ((-128) : Int) ≤ ρ 7 ∧ ρ 7 ≤ 127 := r7
  obtain ⟨w_0, w_1⟩ : (¬ (ρ 2 ≠ 0)) ∧ (¬ (ρ 6 ≠ 2)) := ⟨by omega, by omega⟩
  obtain ⟨m0, m1, m2, -⟩ := hm
  have m0 : γ 0 15 0 37 = ρ 5 := m0
  have m1 : γ 0 15 0 38 = ρ 6 := m1
  have m2 : γ 0 59 0 (ρ 5) = ρ 7 := m2
  obtain ⟨l0, l1, -⟩ := hl
  have l0 : ρ 1 ≠ 0 := l0
  have l1 : ρ 7 ≠ ρ 0 := l1
  obtain ⟨wl_0, wl_1⟩ : (ρ 1 ≠ 0) ∧ (ρ 7 ≠ ρ 0) := ⟨by omega, by omega⟩
  show sn13 [ρ 0, ρ 1, ρ 2, ρ 3, ρ 4, ρ 5, ρ 6] (γ 0) 0 0 (γ 0)
  refine Eq.symm ?_
  show fn13 [ρ 0, ρ 1, ρ 2, ρ 3, ρ 4] (γ 0) = _
  unfold fn13
  refine (zLet_eq (show _ = ρ 0 from rfl)).trans ?_
  refine (zLet_eq (show _ = ρ 1 from rfl)).trans ?_
  refine (zLet_eq (show _ = ρ 2 from rfl)).trans ?_
  refine (zLet_eq (show _ = ρ 3 from rfl)).trans ?_
  refine (zLet_eq (show _ = ρ 4 from rfl)).trans ?_
  refine (zLet_eq m0).trans ?_
  refine (zLet_eq m1).trans ?_
  refine (if_pos wl_0).trans ?_
  refine (if_neg w_0).trans ?_
  refine (if_neg w_1).trans ?_
  refine (zLet_eq m2).trans ?_
  refine (if_pos wl_1).trans ?_
  rfl
theorem vn13_20 {S : Nat → zSpc}  {a : List Int} {g : rHp} : ∀ (ρ : Nat → Int) (γ : Nat → rHp), zO 7 S a g q13_20 ρ γ → zGl (fun _ _ _ => True) (sn13 a g) q13_20 ρ γ := by
  intro ρ γ h
  obtain ⟨ha, hg, hr, hf, hm, hc, hl⟩ := h
  have ha : a = [ρ 0, ρ 1, ρ 2, ρ 3, ρ 4, ρ 5, ρ 6] := ha
  subst ha
  subst hg
  obtain ⟨-, r1, r2, -, -, -, r6, -, r8, -⟩ := hr
  have r1 : ((-2147483648) : Int) ≤ ρ 1 ∧ ρ 1 ≤ 2147483647 := r1
  have r2 : (0 : Int) ≤ ρ 2 ∧ ρ 2 ≤ 0 := r2
  have r6 : (2 : Int) ≤ ρ 6 ∧ ρ 6 ≤ 2 := r6
  have r8 : ((-128) : Int) ≤ ρ 8 ∧ ρ 8 ≤ 127 := r8
  obtain ⟨f0, f1, -⟩ := hf
  have f0 : (0 : Int) ≤ -ρ 7 + ρ 0 := f0
  have f1 : (0 : Int) ≤ ρ 7 + -ρ 0 := f1
  obtain ⟨w_0, w_1, w_2⟩ : (¬ (ρ 2 ≠ 0)) ∧ (¬ (ρ 6 ≠ 2)) ∧ (¬ (ρ 7 ≠ ρ 0)) := ⟨by omega, by omega, by omega⟩
  obtain ⟨m0, m1, m2, m3, -⟩ := hm
  have m0 : γ 0 15 0 37 = ρ 5 := m0
  have m1 : γ 0 15 0 38 = ρ 6 := m1
  have m2 : γ 0 59 0 (ρ 5) = ρ 7 := m2
  have m3 : γ 0 59 0 (ρ 5 + 1) = ρ 8 := m3
  obtain ⟨l0, l1, -⟩ := hl
  have l0 : ρ 1 ≠ 0 := l0
  have l1 : ρ 8 ≠ ρ 1 := l1
  obtain ⟨wl_0, wl_1⟩ : (ρ 1 ≠ 0) ∧ (ρ 8 ≠ ρ 1) := ⟨by omega, by omega⟩
  show sn13 [ρ 0, ρ 1, ρ 2, ρ 3, ρ 4, ρ 5, ρ 6] (γ 0) 0 0 (γ 0)
  refine Eq.symm ?_
  show fn13 [ρ 0, ρ 1, ρ 2, ρ 3, ρ 4] (γ 0) = _
  unfold fn13
  refine (zLet_eq (show _ = ρ 0 from rfl)).trans ?_
  refine (zLet_eq (show _ = ρ 1 from rfl)).trans ?_
  refine (zLet_eq (show _ = ρ 2 from rfl)).trans ?_
  refine (zLet_eq (show _ = ρ 3 from rfl)).trans ?_
  refine (zLet_eq (show _ = ρ 4 from rfl)).trans ?_
  refine (zLet_eq m0).trans ?_
  refine (zLet_eq m1).trans ?_
  refine (if_pos wl_0).trans ?_
  refine (if_neg w_0).trans ?_
  refine (if_neg w_1).trans ?_
  refine (zLet_eq m2).trans ?_
  refine (if_neg w_2).trans ?_
  refine (zLet_eq m3).trans ?_
  refine (if_pos wl_1).trans ?_
  rfl
theorem vn13_21 {S : Nat → zSpc}  {a : List Int} {g : rHp} : ∀ (ρ : Nat → Int) (γ : Nat → rHp), zO 7 S a g q13_21 ρ γ → zGl (fun _ _ _ => True) (sn13 a g) q13_21 ρ γ := by
  intro ρ γ h
  obtain ⟨ha, hg, hr, hf, hm, hc, hl⟩ := h
  have ha : a = [ρ 0, ρ 1, ρ 2, ρ 3, ρ 4, ρ 5, ρ 6] := ha
  subst ha
  subst hg
  obtain ⟨-, r1, r2, -, -, -, r6, -, r8, -⟩ := hr
  have r1 : ((-2147483648) : Int) ≤ ρ 1 ∧ ρ 1 ≤ 2147483647 := r1
  have r2 : (0 : Int) ≤ ρ 2 ∧ ρ 2 ≤ 0 := r2
  have r6 : (2 : Int) ≤ ρ 6 ∧ ρ 6 ≤ 2 := r6
  have r8 : ((-128) : Int) ≤ ρ 8 ∧ ρ 8 ≤ 127 := r8
  obtain ⟨f0, f1, f2, f3, -⟩ := hf
  have f0 : (0 : Int) ≤ -ρ 8 + ρ 1 := f0
  have f1 : (0 : Int) ≤ ρ 8 + -ρ 1 := f1
  have f2 : (0 : Int) ≤ -ρ 7 + ρ 0 := f2
  have f3 : (0 : Int) ≤ ρ 7 + -ρ 0 := f3
  obtain ⟨w_0, w_1, w_2, w_3⟩ : (¬ (ρ 2 ≠ 0)) ∧ (¬ (ρ 6 ≠ 2)) ∧ (¬ (ρ 7 ≠ ρ 0)) ∧ (¬ (ρ 8 ≠ ρ 1)) := ⟨by omega, by omega, by omega, by omega⟩
  obtain ⟨m0, m1, m2, m3, -⟩ := hm
  have m0 : γ 0 15 0 37 = ρ 5 := m0
  have m1 : γ 0 15 0 38 = ρ 6 := m1
  have m2 : γ 0 59 0 (ρ 5) = ρ 7 := m2
  have m3 : γ 0 59 0 (ρ 5 + 1) = ρ 8 := m3
  obtain ⟨l0, -⟩ := hl
  have l0 : ρ 1 ≠ 0 := l0
  have wl_0 : ρ 1 ≠ 0 := by omega
  show sn13 [ρ 0, ρ 1, ρ 2, ρ 3, ρ 4, ρ 5, ρ 6] (γ 0) 0 1 (γ 0)
  refine Eq.symm ?_
  show fn13 [ρ 0, ρ 1, ρ 2, ρ 3, ρ 4] (γ 0) = _
  unfold fn13
  refine (zLet_eq (show _ = ρ 0 from rfl)).trans ?_
  refine (zLet_eq (show _ = ρ 1 from rfl)).trans ?_
  refine (zLet_eq (show _ = ρ 2 from rfl)).trans ?_
  refine (zLet_eq (show _ = ρ 3 from rfl)).trans ?_
  refine (zLet_eq (show _ = ρ 4 from rfl)).trans ?_
  refine (zLet_eq m0).trans ?_
  refine (zLet_eq m1).trans ?_
  refine (if_pos wl_0).trans ?_
  refine (if_neg w_0).trans ?_
  refine (if_neg w_1).trans ?_
  refine (zLet_eq m2).trans ?_
  refine (if_neg w_2).trans ?_
  refine (zLet_eq m3).trans ?_
  refine (if_neg w_3).trans ?_
  rfl
theorem vn13_22 {S : Nat → zSpc}  {a : List Int} {g : rHp} : ∀ (ρ : Nat → Int) (γ : Nat → rHp), zO 7 S a g q13_22 ρ γ → zGl (fun _ _ _ => True) (sn13 a g) q13_22 ρ γ := by
  intro ρ γ h
  obtain ⟨ha, hg, hr, hf, hm, hc, hl⟩ := h
  have ha : a = [ρ 0, ρ 1, ρ 2, ρ 3, ρ 4, ρ 5, ρ 6] := ha
  subst ha
  subst hg
  obtain ⟨-, r1, -, -, -, r5, r6, -⟩ := hr
  have r1 : (0 : Int) ≤ ρ 1 ∧ ρ 1 ≤ 0 := r1
  have r5 : (0 : Int) ≤ ρ 5 ∧ ρ 5 ≤ 2000 := r5
  have r6 : (0 : Int) ≤ ρ 6 ∧ ρ 6 ≤ 2000 := r6
  obtain ⟨f0, -⟩ := hf
  have f0 : (0 : Int) ≤ -ρ 6 + -ρ 5 + 2000 := f0
  have w_0 : ¬ (ρ 1 ≠ 0) := by omega
  obtain ⟨m0, m1, -⟩ := hm
  have m0 : γ 0 15 0 37 = ρ 5 := m0
  have m1 : γ 0 15 0 38 = ρ 6 := m1
  obtain ⟨l0, -⟩ := hl
  have l0 : ρ 6 ≠ 1 := l0
  have wl_0 : ρ 6 ≠ 1 := by omega
  show sn13 [ρ 0, ρ 1, ρ 2, ρ 3, ρ 4, ρ 5, ρ 6] (γ 0) 0 0 (γ 0)
  refine Eq.symm ?_
  show fn13 [ρ 0, ρ 1, ρ 2, ρ 3, ρ 4] (γ 0) = _
  unfold fn13
  refine (zLet_eq (show _ = ρ 0 from rfl)).trans ?_
  refine (zLet_eq (show _ = ρ 1 from rfl)).trans ?_
  refine (zLet_eq (show _ = ρ 2 from rfl)).trans ?_
  refine (zLet_eq (show _ = ρ 3 from rfl)).trans ?_
  refine (zLet_eq (show _ = ρ 4 from rfl)).trans ?_
  refine (zLet_eq m0).trans ?_
  refine (zLet_eq m1).trans ?_
  refine (if_neg w_0).trans ?_
  refine (if_pos wl_0).trans ?_
  rfl
theorem vn13_23 {S : Nat → zSpc}  {a : List Int} {g : rHp} : ∀ (ρ : Nat → Int) (γ : Nat → rHp), zO 7 S a g q13_23 ρ γ → zGl (fun _ _ _ => True) (sn13 a g) q13_23 ρ γ := by
  intro ρ γ h
  obtain ⟨ha, hg, hr, hf, hm, hc, hl⟩ := h
  have ha : a = [ρ 0, ρ 1, ρ 2, ρ 3, ρ 4, ρ 5, ρ 6] := ha
  subst ha
  subst hg
  obtain ⟨r0, r1, -, -, -, -, r6, r7, -⟩ := hr
  have r0 : ((-2147483648) : Int) ≤ ρ 0 ∧ ρ 0 ≤ 2147483647 := r0
  have r1 : (0 : Int) ≤ ρ 1 ∧ ρ 1 ≤ 0 := r1
  have r6 : (1 : Int) ≤ ρ 6 ∧ ρ 6 ≤ 1 := r6
  have r7 : ((-128) : Int) ≤ ρ 7 ∧ ρ 7 ≤ 127 := r7
  obtain ⟨w_0, w_1⟩ : (¬ (ρ 1 ≠ 0)) ∧ (¬ (ρ 6 ≠ 1)) := ⟨by omega, by omega⟩
  obtain ⟨m0, m1, m2, -⟩ := hm
  have m0 : γ 0 15 0 37 = ρ 5 := m0
  have m1 : γ 0 15 0 38 = ρ 6 := m1
  have m2 : γ 0 59 0 (ρ 5) = ρ 7 := m2
  obtain ⟨l0, -⟩ := hl
  have l0 : ρ 7 ≠ ρ 0 := l0
  have wl_0 : ρ 7 ≠ ρ 0 := by omega
  show sn13 [ρ 0, ρ 1, ρ 2, ρ 3, ρ 4, ρ 5, ρ 6] (γ 0) 0 0 (γ 0)
  refine Eq.symm ?_
  show fn13 [ρ 0, ρ 1, ρ 2, ρ 3, ρ 4] (γ 0) = _
  unfold fn13
  refine (zLet_eq (show _ = ρ 0 from rfl)).trans ?_
  refine (zLet_eq (show _ = ρ 1 from rfl)).trans ?_
  refine (zLet_eq (show _ = ρ 2 from rfl)).trans ?_
  refine (zLet_eq (show _ = ρ 3 from rfl)).trans ?_
  refine (zLet_eq (show _ = ρ 4 from rfl)).trans ?_
  refine (zLet_eq m0).trans ?_
  refine (zLet_eq m1).trans ?_
  refine (if_neg w_0).trans ?_
  refine (if_neg w_1).trans ?_
  refine (zLet_eq m2).trans ?_
  refine (if_pos wl_0).trans ?_
  rfl
theorem vn13_24 {S : Nat → zSpc}  {a : List Int} {g : rHp} : ∀ (ρ : Nat → Int) (γ : Nat → rHp), zO 7 S a g q13_24 ρ γ → zGl (fun _ _ _ => True) (sn13 a g) q13_24 ρ γ := by
  intro ρ γ h
  obtain ⟨ha, hg, hr, hf, hm, hc, hl⟩ := h
  have ha : a = [ρ 0, ρ 1, ρ 2, ρ 3, ρ 4, ρ 5, ρ 6] := ha
  subst ha
  subst hg
  obtain ⟨-, r1, -, -, -, -, r6, -⟩ := hr
  have r1 : (0 : Int) ≤ ρ 1 ∧ ρ 1 ≤ 0 := r1
  have r6 : (1 : Int) ≤ ρ 6 ∧ ρ 6 ≤ 1 := r6
  obtain ⟨f0, f1, -⟩ := hf
  have f0 : (0 : Int) ≤ -ρ 7 + ρ 0 := f0
  have f1 : (0 : Int) ≤ ρ 7 + -ρ 0 := f1
  obtain ⟨w_0, w_1, w_2⟩ : (¬ (ρ 1 ≠ 0)) ∧ (¬ (ρ 6 ≠ 1)) ∧ (¬ (ρ 7 ≠ ρ 0)) := ⟨by omega, by omega, by omega⟩
  obtain ⟨m0, m1, m2, -⟩ := hm
  have m0 : γ 0 15 0 37 = ρ 5 := m0
  have m1 : γ 0 15 0 38 = ρ 6 := m1
  have m2 : γ 0 59 0 (ρ 5) = ρ 7 := m2
  show sn13 [ρ 0, ρ 1, ρ 2, ρ 3, ρ 4, ρ 5, ρ 6] (γ 0) 0 1 (γ 0)
  refine Eq.symm ?_
  show fn13 [ρ 0, ρ 1, ρ 2, ρ 3, ρ 4] (γ 0) = _
  unfold fn13
  refine (zLet_eq (show _ = ρ 0 from rfl)).trans ?_
  refine (zLet_eq (show _ = ρ 1 from rfl)).trans ?_
  refine (zLet_eq (show _ = ρ 2 from rfl)).trans ?_
  refine (zLet_eq (show _ = ρ 3 from rfl)).trans ?_
  refine (zLet_eq (show _ = ρ 4 from rfl)).trans ?_
  refine (zLet_eq m0).trans ?_
  refine (zLet_eq m1).trans ?_
  refine (if_neg w_0).trans ?_
  refine (if_neg w_1).trans ?_
  refine (zLet_eq m2).trans ?_
  refine (if_neg w_2).trans ?_
  rfl
theorem yn13 {S : Nat → zSpc}  : ∀ x g o v gz, zSem uW uT w13_.2.2.2.1 w13_.2.2.1.1.length S q13 (fun i => q13a.getD i []) (zNA a13_) x g o v gz → sn13 x g o v gz := by
  intro a g o v gz h
  exact zSem_all (l0 := q13) (las := q13a) (S := S) (J := (fun _ _ _ => True)) (P := sn13 a g) (fun _ => (show zAll _ [q13_0, q13_1, q13_2, q13_3, q13_4, q13_5, q13_6, q13_7, q13_8, q13_9, q13_10, q13_11, q13_12, q13_13, q13_14, q13_15, q13_16, q13_17, q13_18, q13_19, q13_20, q13_21, q13_22, q13_23, q13_24] from (zAll_c (vn13_0 ) (zAll_c (vn13_1 ) (zAll_c (vn13_2 ) (zAll_c (vn13_3 ) (zAll_c (vn13_4 ) (zAll_c (vn13_5 ) (zAll_c (vn13_6 ) (zAll_c (vn13_7 ) (zAll_c (vn13_8 ) (zAll_c (vn13_9 ) (zAll_c (vn13_10 ) (zAll_c (vn13_11 ) (zAll_c (vn13_12 ) (zAll_c (vn13_13 ) (zAll_c (vn13_14 ) (zAll_c (vn13_15 ) (zAll_c (vn13_16 ) (zAll_c (vn13_17 ) (zAll_c (vn13_18 ) (zAll_c (vn13_19 ) (zAll_c (vn13_20 ) (zAll_c (vn13_21 ) (zAll_c (vn13_22 ) (zAll_c (vn13_23 ) (zAll_c (vn13_24 ) zAll_n))))))))))))))))))))))))))) (fun _ => (show zAllI _ 0 [] from trivial)) h
theorem vn14_0 {S : Nat → zSpc} (hS6 : ∀ x g o v gz, S 6 x g o v gz → sn6 x g o v gz) (hS8 : ∀ x g o v gz, S 8 x g o v gz → sn8 x g o v gz) (hS11 : ∀ x g o v gz, S 11 x g o v gz → sn11 x g o v gz) {a : List Int} {g : rHp} : ∀ (ρ : Nat → Int) (γ : Nat → rHp), zO 4 S a g q14_0 ρ γ → zGl (fun i vs g1 => jn14 a g i vs g1) (sn14 a g) q14_0 ρ γ := by
  intro ρ γ h
  obtain ⟨ha, hg, hr, hf, hm, hc, hl⟩ := h
  have ha : a = [ρ 0, ρ 1, ρ 2, ρ 3] := ha
  subst ha
  subst hg
  obtain ⟨-, -, -, -, r4, -⟩ := hr
  have r4 : ((-128) : Int) ≤ ρ 4 ∧ ρ 4 ≤ 127 := r4
  obtain ⟨m0, m1, -⟩ := hm
  have m0 : γ 0 15 0 35 = ρ 0 := m0
  have m1 : γ 0 15 0 34 = ρ 1 := m1
  obtain ⟨l0, l1, l2, l3, l4, -⟩ := hl
  have l0 : sn6 [ρ 0, ρ 1] (γ 0) 0 (ρ 4) (γ 1) := hS6 _ _ _ _ _ l0
  have l1 : ρ 4 ≠ 45 := l1
  have l2 : sn6 [ρ 0, ρ 1] (γ 1) 0 (ρ 5) (γ 2) := hS6 _ _ _ _ _ l2
  have l3 : sn11 [ρ 5] (γ 2) 0 0 (γ 3) := hS11 _ _ _ _ _ l3
  have l4 : sn8 [ρ 0, ρ 1, ρ 2] (γ 3) 0 0 (γ 4) := hS8 _ _ _ _ _ l4
  have wl_0 : ρ 4 ≠ 45 := by omega
  show sn14 [ρ 0, ρ 1, ρ 2, ρ 3] (γ 0) 0 0 (γ 4)
  have hD : dn14 [] (γ 0) = .inr (0, 0, γ 4) := by
    unfold dn14
    refine (zLet_eq m0).trans ?_
    refine (zLet_eq m1).trans ?_
    refine (zLet_eq (show fn6 [ρ 0] (γ 0) = (0, ρ 4, γ 1) from l0.symm)).trans ?_
    refine (zLet_eq (show _ = γ 1 from rfl)).trans ?_
    refine (zLet_eq (show _ = ρ 4 from rfl)).trans ?_
    refine (if_pos wl_0).trans ?_
    refine (zLet_eq (show fn6 [ρ 0] (γ 1) = (0, ρ 5, γ 2) from l2.symm)).trans ?_
    refine (zLet_eq (show _ = γ 2 from rfl)).trans ?_
    refine (zLet_eq (show _ = ρ 5 from rfl)).trans ?_
    refine (zLet_eq (show fn11 [ρ 5] (γ 2) = (0, 0, γ 3) from l3.symm)).trans ?_
    refine (zLet_eq (show _ = γ 3 from rfl)).trans ?_
    refine (if_neg zQ0_).trans ?_
    refine (zLet_eq (show fn8 [ρ 0] (γ 3) = (0, 0, γ 4) from l4.symm)).trans ?_
    refine (zLet_eq (show _ = γ 4 from rfl)).trans ?_
    rfl
  exact zGoo_end hD
theorem vn14_1 {S : Nat → zSpc} (hS6 : ∀ x g o v gz, S 6 x g o v gz → sn6 x g o v gz) (hS8 : ∀ x g o v gz, S 8 x g o v gz → sn8 x g o v gz) (hS11 : ∀ x g o v gz, S 11 x g o v gz → sn11 x g o v gz) {a : List Int} {g : rHp} : ∀ (ρ : Nat → Int) (γ : Nat → rHp), zO 4 S a g q14_1 ρ γ → zGl (fun i vs g1 => jn14 a g i vs g1) (sn14 a g) q14_1 ρ γ := by
  intro ρ γ h
  obtain ⟨ha, hg, hr, hf, hm, hc, hl⟩ := h
  have ha : a = [ρ 0, ρ 1, ρ 2, ρ 3] := ha
  subst ha
  subst hg
  obtain ⟨-, -, -, -, r4, -⟩ := hr
  have r4 : ((-128) : Int) ≤ ρ 4 ∧ ρ 4 ≤ 127 := r4
  obtain ⟨f0, -⟩ := hf
  have f0 : (0 : Int) ≤ ρ 1 + -ρ 0 + (-2) := f0
  have w_0 : 0 ≤ ρ 1 + -ρ 0 + (-2) := by omega
  obtain ⟨m0, m1, -⟩ := hm
  have m0 : γ 0 15 0 35 = ρ 0 := m0
  have m1 : γ 0 15 0 34 = ρ 1 := m1
  obtain ⟨⟨⟨-, c7⟩, c8⟩, c9⟩ := hc
  have c7 : γ 7 = rUp (γ 6) 15 0 35 (ρ 0 + 1) := c7
  have c8 : γ 8 = rUp (γ 7) 15 0 39 (ρ 6 + (-48)) := c8
  have c9 : γ 9 = rUp (γ 8) 15 0 40 0 := c9
  obtain ⟨l0, l1, l2, l3, l4, l5, l6, -⟩ := hl
  have l0 : sn6 [ρ 0, ρ 1] (γ 0) 0 (ρ 4) (γ 1) := hS6 _ _ _ _ _ l0
  have l1 : ρ 4 ≠ 45 := l1
  have l2 : sn6 [ρ 0, ρ 1] (γ 1) 0 (ρ 5) (γ 2) := hS6 _ _ _ _ _ l2
  have l3 : sn11 [ρ 5] (γ 2) 0 1 (γ 3) := hS11 _ _ _ _ _ l3
  have l4 : sn6 [ρ 0, ρ 1] (γ 3) 0 (ρ 6) (γ 4) := hS6 _ _ _ _ _ l4
  have l5 : sn6 [ρ 0 + 1, ρ 1] (γ 4) 0 (ρ 7) (γ 5) := hS6 _ _ _ _ _ l5
  have l6 : sn11 [ρ 7] (γ 5) 0 0 (γ 6) := hS11 _ _ _ _ _ l6
  have wl_0 : ρ 4 ≠ 45 := by omega
  show sn14 [ρ 0, ρ 1, ρ 2, ρ 3] (γ 0) 0 1 (γ 9)
  have hD : dn14 [] (γ 0) = .inr (0, 1, γ 9) := by
    unfold dn14
    refine (zLet_eq m0).trans ?_
    refine (zLet_eq m1).trans ?_
    refine (zLet_eq (show fn6 [ρ 0] (γ 0) = (0, ρ 4, γ 1) from l0.symm)).trans ?_
    refine (zLet_eq (show _ = γ 1 from rfl)).trans ?_
    refine (zLet_eq (show _ = ρ 4 from rfl)).trans ?_
    refine (if_pos wl_0).trans ?_
    refine (zLet_eq (show fn6 [ρ 0] (γ 1) = (0, ρ 5, γ 2) from l2.symm)).trans ?_
    refine (zLet_eq (show _ = γ 2 from rfl)).trans ?_
    refine (zLet_eq (show _ = ρ 5 from rfl)).trans ?_
    refine (zLet_eq (show fn11 [ρ 5] (γ 2) = (0, 1, γ 3) from l3.symm)).trans ?_
    refine (zLet_eq (show _ = γ 3 from rfl)).trans ?_
    refine (if_pos zQ1_).trans ?_
    refine (zLet_eq (show fn6 [ρ 0] (γ 3) = (0, ρ 6, γ 4) from l4.symm)).trans ?_
    refine (zLet_eq (show _ = γ 4 from rfl)).trans ?_
    refine (zLet_eq (show _ = ρ 6 from rfl)).trans ?_
    refine (zLet_eq (show fn6 [ρ 0 + 1] (γ 4) = (0, ρ 7, γ 5) from l5.symm)).trans ?_
    refine (zLet_eq (show _ = γ 5 from rfl)).trans ?_
    refine (if_pos w_0).trans ?_
    refine (zLet_eq (show _ = ρ 7 from rfl)).trans ?_
    refine (zLet_eq (show fn11 [ρ 7] (γ 5) = (0, 0, γ 6) from l6.symm)).trans ?_
    refine (zLet_eq (show _ = γ 6 from rfl)).trans ?_
    refine (if_neg zQ0_).trans ?_
    refine (zLet_eq c7.symm).trans ?_
    refine (zLet_eq c8.symm).trans ?_
    refine (zLet_eq c9.symm).trans ?_
    rfl
  exact zGoo_end hD
theorem vn14_2 {S : Nat → zSpc} (hS6 : ∀ x g o v gz, S 6 x g o v gz → sn6 x g o v gz) (hS8 : ∀ x g o v gz, S 8 x g o v gz → sn8 x g o v gz) (hS11 : ∀ x g o v gz, S 11 x g o v gz → sn11 x g o v gz) {a : List Int} {g : rHp} : ∀ (ρ : Nat → Int) (γ : Nat → rHp), zO 4 S a g q14_2 ρ γ → zGl (fun i vs g1 => jn14 a g i vs g1) (sn14 a g) q14_2 ρ γ := by
  intro ρ γ h
  obtain ⟨ha, hg, hr, hf, hm, hc, hl⟩ := h
  have ha : a = [ρ 0, ρ 1, ρ 2, ρ 3] := ha
  subst ha
  subst hg
  obtain ⟨-, -, -, -, r4, -⟩ := hr
  have r4 : ((-128) : Int) ≤ ρ 4 ∧ ρ 4 ≤ 127 := r4
  obtain ⟨f0, -⟩ := hf
  have f0 : (0 : Int) ≤ ρ 1 + -ρ 0 + (-3) := f0
  obtain ⟨w_0, w_1⟩ : (0 ≤ ρ 1 + -ρ 0 + (-2)) ∧ (0 ≤ ρ 1 + -ρ 0 + (-3)) := ⟨by omega, by omega⟩
  obtain ⟨m0, m1, -⟩ := hm
  have m0 : γ 0 15 0 35 = ρ 0 := m0
  have m1 : γ 0 15 0 34 = ρ 1 := m1
  obtain ⟨⟨⟨-, c10⟩, c11⟩, c12⟩ := hc
  have c10 : γ 10 = rUp (γ 9) 15 0 35 (ρ 0 + 2) := c10
  have c11 : γ 11 = rUp (γ 10) 15 0 39 (ρ 8 + 10 * ρ 6 + (-528)) := c11
  have c12 : γ 12 = rUp (γ 11) 15 0 40 0 := c12
  obtain ⟨l0, l1, l2, l3, l4, l5, l6, l7, l8, l9, -⟩ := hl
  have l0 : sn6 [ρ 0, ρ 1] (γ 0) 0 (ρ 4) (γ 1) := hS6 _ _ _ _ _ l0
  have l1 : ρ 4 ≠ 45 := l1
  have l2 : sn6 [ρ 0, ρ 1] (γ 1) 0 (ρ 5) (γ 2) := hS6 _ _ _ _ _ l2
  have l3 : sn11 [ρ 5] (γ 2) 0 1 (γ 3) := hS11 _ _ _ _ _ l3
  have l4 : sn6 [ρ 0, ρ 1] (γ 3) 0 (ρ 6) (γ 4) := hS6 _ _ _ _ _ l4
  have l5 : sn6 [ρ 0 + 1, ρ 1] (γ 4) 0 (ρ 7) (γ 5) := hS6 _ _ _ _ _ l5
  have l6 : sn11 [ρ 7] (γ 5) 0 1 (γ 6) := hS11 _ _ _ _ _ l6
  have l7 : sn6 [ρ 0 + 1, ρ 1] (γ 6) 0 (ρ 8) (γ 7) := hS6 _ _ _ _ _ l7
  have l8 : sn6 [ρ 0 + 2, ρ 1] (γ 7) 0 (ρ 9) (γ 8) := hS6 _ _ _ _ _ l8
  have l9 : sn11 [ρ 9] (γ 8) 0 0 (γ 9) := hS11 _ _ _ _ _ l9
  have wl_0 : ρ 4 ≠ 45 := by omega
  show sn14 [ρ 0, ρ 1, ρ 2, ρ 3] (γ 0) 0 1 (γ 12)
  have hD : dn14 [] (γ 0) = .inr (0, 1, γ 12) := by
    unfold dn14
    refine (zLet_eq m0).trans ?_
    refine (zLet_eq m1).trans ?_
    refine (zLet_eq (show fn6 [ρ 0] (γ 0) = (0, ρ 4, γ 1) from l0.symm)).trans ?_
    refine (zLet_eq (show _ = γ 1 from rfl)).trans ?_
    refine (zLet_eq (show _ = ρ 4 from rfl)).trans ?_
    refine (if_pos wl_0).trans ?_
    refine (zLet_eq (show fn6 [ρ 0] (γ 1) = (0, ρ 5, γ 2) from l2.symm)).trans ?_
    refine (zLet_eq (show _ = γ 2 from rfl)).trans ?_
    refine (zLet_eq (show _ = ρ 5 from rfl)).trans ?_
    refine (zLet_eq (show fn11 [ρ 5] (γ 2) = (0, 1, γ 3) from l3.symm)).trans ?_
    refine (zLet_eq (show _ = γ 3 from rfl)).trans ?_
    refine (if_pos zQ1_).trans ?_
    refine (zLet_eq (show fn6 [ρ 0] (γ 3) = (0, ρ 6, γ 4) from l4.symm)).trans ?_
    refine (zLet_eq (show _ = γ 4 from rfl)).trans ?_
    refine (zLet_eq (show _ = ρ 6 from rfl)).trans ?_
    refine (zLet_eq (show fn6 [ρ 0 + 1] (γ 4) = (0, ρ 7, γ 5) from l5.symm)).trans ?_
    refine (zLet_eq (show _ = γ 5 from rfl)).trans ?_
    refine (if_pos w_0).trans ?_
    refine (zLet_eq (show _ = ρ 7 from rfl)).trans ?_
    refine (zLet_eq (show fn11 [ρ 7] (γ 5) = (0, 1, γ 6) from l6.symm)).trans ?_
    refine (zLet_eq (show _ = γ 6 from rfl)).trans ?_
    refine (if_pos zQ1_).trans ?_
    refine (zLet_eq (show fn6 [ρ 0 + 1] (γ 6) = (0, ρ 8, γ 7) from l7.symm)).trans ?_
    refine (zLet_eq (show _ = γ 7 from rfl)).trans ?_
    refine (zLet_eq (show _ = ρ 8 from rfl)).trans ?_
    refine (zLet_eq (show fn6 [ρ 0 + 2] (γ 7) = (0, ρ 9, γ 8) from l8.symm)).trans ?_
    refine (zLet_eq (show _ = γ 8 from rfl)).trans ?_
    refine (if_pos w_1).trans ?_
    refine (zLet_eq (show _ = ρ 9 from rfl)).trans ?_
    refine (zLet_eq (show fn11 [ρ 9] (γ 8) = (0, 0, γ 9) from l9.symm)).trans ?_
    refine (zLet_eq (show _ = γ 9 from rfl)).trans ?_
    refine (if_neg zQ0_).trans ?_
    refine (zLet_eq c10.symm).trans ?_
    refine (zLet_eq c11.symm).trans ?_
    refine (zLet_eq c12.symm).trans ?_
    rfl
  exact zGoo_end hD
theorem vn14_3 {S : Nat → zSpc} (hS6 : ∀ x g o v gz, S 6 x g o v gz → sn6 x g o v gz) (hS8 : ∀ x g o v gz, S 8 x g o v gz → sn8 x g o v gz) (hS11 : ∀ x g o v gz, S 11 x g o v gz → sn11 x g o v gz) {a : List Int} {g : rHp} : ∀ (ρ : Nat → Int) (γ : Nat → rHp), zO 4 S a g q14_3 ρ γ → zGl (fun i vs g1 => jn14 a g i vs g1) (sn14 a g) q14_3 ρ γ := by
  intro ρ γ h
  obtain ⟨ha, hg, hr, hf, hm, hc, hl⟩ := h
  have ha : a = [ρ 0, ρ 1, ρ 2, ρ 3] := ha
  subst ha
  subst hg
  obtain ⟨-, -, -, -, r4, -⟩ := hr
  have r4 : ((-128) : Int) ≤ ρ 4 ∧ ρ 4 ≤ 127 := r4
  obtain ⟨f0, -⟩ := hf
  have f0 : (0 : Int) ≤ ρ 1 + -ρ 0 + (-4) := f0
  obtain ⟨w_0, w_1, w_2⟩ : (0 ≤ ρ 1 + -ρ 0 + (-2)) ∧ (0 ≤ ρ 1 + -ρ 0 + (-3)) ∧ (0 ≤ ρ 1 + -ρ 0 + (-4)) := ⟨by omega, by omega, by omega⟩
  obtain ⟨m0, m1, -⟩ := hm
  have m0 : γ 0 15 0 35 = ρ 0 := m0
  have m1 : γ 0 15 0 34 = ρ 1 := m1
  obtain ⟨⟨⟨-, c13⟩, c14⟩, c15⟩ := hc
  have c13 : γ 13 = rUp (γ 12) 15 0 35 (ρ 0 + 3) := c13
  have c14 : γ 14 = rUp (γ 13) 15 0 39 (ρ 10 + (10 * ρ 8 + 100 * ρ 6) + (-5328)) := c14
  have c15 : γ 15 = rUp (γ 14) 15 0 40 0 := c15
  obtain ⟨l0, l1, l2, l3, l4, l5, l6, l7, l8, l9, l10, l11, l12, -⟩ := hl
  have l0 : sn6 [ρ 0, ρ 1] (γ 0) 0 (ρ 4) (γ 1) := hS6 _ _ _ _ _ l0
  have l1 : ρ 4 ≠ 45 := l1
  have l2 : sn6 [ρ 0, ρ 1] (γ 1) 0 (ρ 5) (γ 2) := hS6 _ _ _ _ _ l2
  have l3 : sn11 [ρ 5] (γ 2) 0 1 (γ 3) := hS11 _ _ _ _ _ l3
  have l4 : sn6 [ρ 0, ρ 1] (γ 3) 0 (ρ 6) (γ 4) := hS6 _ _ _ _ _ l4
  have l5 : sn6 [ρ 0 + 1, ρ 1] (γ 4) 0 (ρ 7) (γ 5) := hS6 _ _ _ _ _ l5
  have l6 : sn11 [ρ 7] (γ 5) 0 1 (γ 6) := hS11 _ _ _ _ _ l6
  have l7 : sn6 [ρ 0 + 1, ρ 1] (γ 6) 0 (ρ 8) (γ 7) := hS6 _ _ _ _ _ l7
  have l8 : sn6 [ρ 0 + 2, ρ 1] (γ 7) 0 (ρ 9) (γ 8) := hS6 _ _ _ _ _ l8
  have l9 : sn11 [ρ 9] (γ 8) 0 1 (γ 9) := hS11 _ _ _ _ _ l9
  have l10 : sn6 [ρ 0 + 2, ρ 1] (γ 9) 0 (ρ 10) (γ 10) := hS6 _ _ _ _ _ l10
  have l11 : sn6 [ρ 0 + 3, ρ 1] (γ 10) 0 (ρ 11) (γ 11) := hS6 _ _ _ _ _ l11
  have l12 : sn11 [ρ 11] (γ 11) 0 0 (γ 12) := hS11 _ _ _ _ _ l12
  have wl_0 : ρ 4 ≠ 45 := by omega
  show sn14 [ρ 0, ρ 1, ρ 2, ρ 3] (γ 0) 0 1 (γ 15)
  have hD : dn14 [] (γ 0) = .inr (0, 1, γ 15) := by
    unfold dn14
    refine (zLet_eq m0).trans ?_
    refine (zLet_eq m1).trans ?_
    refine (zLet_eq (show fn6 [ρ 0] (γ 0) = (0, ρ 4, γ 1) from l0.symm)).trans ?_
    refine (zLet_eq (show _ = γ 1 from rfl)).trans ?_
    refine (zLet_eq (show _ = ρ 4 from rfl)).trans ?_
    refine (if_pos wl_0).trans ?_
    refine (zLet_eq (show fn6 [ρ 0] (γ 1) = (0, ρ 5, γ 2) from l2.symm)).trans ?_
    refine (zLet_eq (show _ = γ 2 from rfl)).trans ?_
    refine (zLet_eq (show _ = ρ 5 from rfl)).trans ?_
    refine (zLet_eq (show fn11 [ρ 5] (γ 2) = (0, 1, γ 3) from l3.symm)).trans ?_
    refine (zLet_eq (show _ = γ 3 from rfl)).trans ?_
    refine (if_pos zQ1_).trans ?_
    refine (zLet_eq (show fn6 [ρ 0] (γ 3) = (0, ρ 6, γ 4) from l4.symm)).trans ?_
    refine (zLet_eq (show _ = γ 4 from rfl)).trans ?_
    refine (zLet_eq (show _ = ρ 6 from rfl)).trans ?_
    refine (zLet_eq (show fn6 [ρ 0 + 1] (γ 4) = (0, ρ 7, γ 5) from l5.symm)).trans ?_
    refine (zLet_eq (show _ = γ 5 from rfl)).trans ?_
    refine (if_pos w_0).trans ?_
    refine (zLet_eq (show _ = ρ 7 from rfl)).trans ?_
    refine (zLet_eq (show fn11 [ρ 7] (γ 5) = (0, 1, γ 6) from l6.symm)).trans ?_
    refine (zLet_eq (show _ = γ 6 from rfl)).trans ?_
    refine (if_pos zQ1_).trans ?_
    refine (zLet_eq (show fn6 [ρ 0 + 1] (γ 6) = (0, ρ 8, γ 7) from l7.symm)).trans ?_
    refine (zLet_eq (show _ = γ 7 from rfl)).trans ?_
    refine (zLet_eq (show _ = ρ 8 from rfl)).trans ?_
    refine (zLet_eq (show fn6 [ρ 0 + 2] (γ 7) = (0, ρ 9, γ 8) from l8.symm)).trans ?_
    refine (zLet_eq (show _ = γ 8 from rfl)).trans ?_
    refine (if_pos w_1).trans ?_
    refine (zLet_eq (show _ = ρ 9 from rfl)).trans ?_
    refine (zLet_eq (show fn11 [ρ 9] (γ 8) = (0, 1, γ 9) from l9.symm)).trans ?_
    refine (zLet_eq (show _ = γ 9 from rfl)).trans ?_
    refine (if_pos zQ1_).trans ?_
    refine (zLet_eq (show fn6 [ρ 0 + 2] (γ 9) = (0, ρ 10, γ 10) from l10.symm)).trans ?_
    refine (zLet_eq (show _ = γ 10 from rfl)).trans ?_
    refine (zLet_eq (show _ = ρ 10 from rfl)).trans ?_
    refine (zLet_eq (show fn6 [ρ 0 + 3] (γ 10) = (0, ρ 11, γ 11) from l11.symm)).trans ?_
    refine (zLet_eq (show _ = γ 11 from rfl)).trans ?_
    refine (if_pos w_2).trans ?_
    refine (zLet_eq (show _ = ρ 11 from rfl)).trans ?_
    refine (zLet_eq (show fn11 [ρ 11] (γ 11) = (0, 0, γ 12) from l12.symm)).trans ?_
    refine (zLet_eq (show _ = γ 12 from rfl)).trans ?_
    refine (if_neg zQ0_).trans ?_
    refine (zLet_eq c13.symm).trans ?_
    refine (zLet_eq c14.symm).trans ?_
    refine (zLet_eq c15.symm).trans ?_
    rfl
  exact zGoo_end hD
theorem vn14_4 {S : Nat → zSpc} (hS6 : ∀ x g o v gz, S 6 x g o v gz → sn6 x g o v gz) (hS8 : ∀ x g o v gz, S 8 x g o v gz → sn8 x g o v gz) (hS11 : ∀ x g o v gz, S 11 x g o v gz → sn11 x g o v gz) {a : List Int} {g : rHp} : ∀ (ρ : Nat → Int) (γ : Nat → rHp), zO 4 S a g q14_4 ρ γ → zGl (fun i vs g1 => jn14 a g i vs g1) (sn14 a g) q14_4 ρ γ := by
  intro ρ γ h
  obtain ⟨ha, hg, hr, hf, hm, hc, hl⟩ := h
  have ha : a = [ρ 0, ρ 1, ρ 2, ρ 3] := ha
  subst ha
  subst hg
  obtain ⟨-, -, -, -, r4, -⟩ := hr
  have r4 : ((-128) : Int) ≤ ρ 4 ∧ ρ 4 ≤ 127 := r4
  obtain ⟨f0, -⟩ := hf
  have f0 : (0 : Int) ≤ ρ 1 + -ρ 0 + (-5) := f0
  obtain ⟨w_0, w_1, w_2, w_3⟩ : (0 ≤ ρ 1 + -ρ 0 + (-2)) ∧ (0 ≤ ρ 1 + -ρ 0 + (-3)) ∧ (0 ≤ ρ 1 + -ρ 0 + (-4)) ∧ (0 ≤ ρ 1 + -ρ 0 + (-5)) := ⟨by omega, by omega, by omega, by omega⟩
  obtain ⟨m0, m1, -⟩ := hm
  have m0 : γ 0 15 0 35 = ρ 0 := m0
  have m1 : γ 0 15 0 34 = ρ 1 := m1
  obtain ⟨⟨⟨-, c16⟩, c17⟩, c18⟩ := hc
  have c16 : γ 16 = rUp (γ 15) 15 0 35 (ρ 0 + 4) := c16
  have c17 : γ 17 = rUp (γ 16) 15 0 39 (ρ 12 + (10 * ρ 10 + (100 * ρ 8 + 1000 * ρ 6)) + (-53328)) := c17
  have c18 : γ 18 = rUp (γ 17) 15 0 40 0 := c18
  obtain ⟨l0, l1, l2, l3, l4, l5, l6, l7, l8, l9, l10, l11, l12, l13, l14, l15, -⟩ := hl
  have l0 : sn6 [ρ 0, ρ 1] (γ 0) 0 (ρ 4) (γ 1) := hS6 _ _ _ _ _ l0
  have l1 : ρ 4 ≠ 45 := l1
  have l2 : sn6 [ρ 0, ρ 1] (γ 1) 0 (ρ 5) (γ 2) := hS6 _ _ _ _ _ l2
  have l3 : sn11 [ρ 5] (γ 2) 0 1 (γ 3) := hS11 _ _ _ _ _ l3
  have l4 : sn6 [ρ 0, ρ 1] (γ 3) 0 (ρ 6) (γ 4) := hS6 _ _ _ _ _ l4
  have l5 : sn6 [ρ 0 + 1, ρ 1] (γ 4) 0 (ρ 7) (γ 5) := hS6 _ _ _ _ _ l5
  have l6 : sn11 [ρ 7] (γ 5) 0 1 (γ 6) := hS11 _ _ _ _ _ l6
  have l7 : sn6 [ρ 0 + 1, ρ 1] (γ 6) 0 (ρ 8) (γ 7) := hS6 _ _ _ _ _ l7
  have l8 : sn6 [ρ 0 + 2, ρ 1] (γ 7) 0 (ρ 9) (γ 8) := hS6 _ _ _ _ _ l8
  have l9 : sn11 [ρ 9] (γ 8) 0 1 (γ 9) := hS11 _ _ _ _ _ l9
  have l10 : sn6 [ρ 0 + 2, ρ 1] (γ 9) 0 (ρ 10) (γ 10) := hS6 _ _ _ _ _ l10
  have l11 : sn6 [ρ 0 + 3, ρ 1] (γ 10) 0 (ρ 11) (γ 11) := hS6 _ _ _ _ _ l11
  have l12 : sn11 [ρ 11] (γ 11) 0 1 (γ 12) := hS11 _ _ _ _ _ l12
  have l13 : sn6 [ρ 0 + 3, ρ 1] (γ 12) 0 (ρ 12) (γ 13) := hS6 _ _ _ _ _ l13
  have l14 : sn6 [ρ 0 + 4, ρ 1] (γ 13) 0 (ρ 13) (γ 14) := hS6 _ _ _ _ _ l14
  have l15 : sn11 [ρ 13] (γ 14) 0 0 (γ 15) := hS11 _ _ _ _ _ l15
  have wl_0 : ρ 4 ≠ 45 := by omega
  show sn14 [ρ 0, ρ 1, ρ 2, ρ 3] (γ 0) 0 1 (γ 18)
  have hD : dn14 [] (γ 0) = .inr (0, 1, γ 18) := by
    unfold dn14
    refine (zLet_eq m0).trans ?_
    refine (zLet_eq m1).trans ?_
    refine (zLet_eq (show fn6 [ρ 0] (γ 0) = (0, ρ 4, γ 1) from l0.symm)).trans ?_
    refine (zLet_eq (show _ = γ 1 from rfl)).trans ?_
    refine (zLet_eq (show _ = ρ 4 from rfl)).trans ?_
    refine (if_pos wl_0).trans ?_
    refine (zLet_eq (show fn6 [ρ 0] (γ 1) = (0, ρ 5, γ 2) from l2.symm)).trans ?_
    refine (zLet_eq (show _ = γ 2 from rfl)).trans ?_
    refine (zLet_eq (show _ = ρ 5 from rfl)).trans ?_
    refine (zLet_eq (show fn11 [ρ 5] (γ 2) = (0, 1, γ 3) from l3.symm)).trans ?_
    refine (zLet_eq (show _ = γ 3 from rfl)).trans ?_
    refine (if_pos zQ1_).trans ?_
    refine (zLet_eq (show fn6 [ρ 0] (γ 3) = (0, ρ 6, γ 4) from l4.symm)).trans ?_
    refine (zLet_eq (show _ = γ 4 from rfl)).trans ?_
    refine (zLet_eq (show _ = ρ 6 from rfl)).trans ?_
    refine (zLet_eq (show fn6 [ρ 0 + 1] (γ 4) = (0, ρ 7, γ 5) from l5.symm)).trans ?_
    refine (zLet_eq (show _ = γ 5 from rfl)).trans ?_
    refine (if_pos w_0).trans ?_
    refine (zLet_eq (show _ = ρ 7 from rfl)).trans ?_
    refine (zLet_eq (show fn11 [ρ 7] (γ 5) = (0, 1, γ 6) from l6.symm)).trans ?_
    refine (zLet_eq (show _ = γ 6 from rfl)).trans ?_
    refine (if_pos zQ1_).trans ?_
    refine (zLet_eq (show fn6 [ρ 0 + 1] (γ 6) = (0, ρ 8, γ 7) from l7.symm)).trans ?_
    refine (zLet_eq (show _ = γ 7 from rfl)).trans ?_
    refine (zLet_eq (show _ = ρ 8 from rfl)).trans ?_
    refine (zLet_eq (show fn6 [ρ 0 + 2] (γ 7) = (0, ρ 9, γ 8) from l8.symm)).trans ?_
    refine (zLet_eq (show _ = γ 8 from rfl)).trans ?_
    refine (if_pos w_1).trans ?_
    refine (zLet_eq (show _ = ρ 9 from rfl)).trans ?_
    refine (zLet_eq (show fn11 [ρ 9] (γ 8) = (0, 1, γ 9) from l9.symm)).trans ?_
    refine (zLet_eq (show _ = γ 9 from rfl)).trans ?_
    refine (if_pos zQ1_).trans ?_
    refine (zLet_eq (show fn6 [ρ 0 + 2] (γ 9) = (0, ρ 10, γ 10) from l10.symm)).trans ?_
    refine (zLet_eq (show _ = γ 10 from rfl)).trans ?_
    refine (zLet_eq (show _ = ρ 10 from rfl)).trans ?_
    refine (zLet_eq (show fn6 [ρ 0 + 3] (γ 10) = (0, ρ 11, γ 11) from l11.symm)).trans ?_
    refine (zLet_eq (show _ = γ 11 from rfl)).trans ?_
    refine (if_pos w_2).trans ?_
    refine (zLet_eq (show _ = ρ 11 from rfl)).trans ?_
    refine (zLet_eq (show fn11 [ρ 11] (γ 11) = (0, 1, γ 12) from l12.symm)).trans ?_
    refine (zLet_eq (show _ = γ 12 from rfl)).trans ?_
    refine (if_pos zQ1_).trans ?_
    refine (zLet_eq (show fn6 [ρ 0 + 3] (γ 12) = (0, ρ 12, γ 13) from l13.symm)).trans ?_
    refine (zLet_eq (show _ = γ 13 from rfl)).trans ?_
    refine (zLet_eq (show _ = ρ 12 from rfl)).trans ?_
    refine (zLet_eq (show fn6 [ρ 0 + 4] (γ 13) = (0, ρ 13, γ 14) from l14.symm)).trans ?_
    refine (zLet_eq (show _ = γ 14 from rfl)).trans ?_
    refine (if_pos w_3).trans ?_
    refine (zLet_eq (show _ = ρ 13 from rfl)).trans ?_
    refine (zLet_eq (show fn11 [ρ 13] (γ 14) = (0, 0, γ 15) from l15.symm)).trans ?_
    refine (zLet_eq (show _ = γ 15 from rfl)).trans ?_
    refine (if_neg zQ0_).trans ?_
    refine (zLet_eq c16.symm).trans ?_
    refine (zLet_eq c17.symm).trans ?_
    refine (zLet_eq c18.symm).trans ?_
    rfl
  exact zGoo_end hD
theorem vn14_5 {S : Nat → zSpc} (hS6 : ∀ x g o v gz, S 6 x g o v gz → sn6 x g o v gz) (hS8 : ∀ x g o v gz, S 8 x g o v gz → sn8 x g o v gz) (hS11 : ∀ x g o v gz, S 11 x g o v gz → sn11 x g o v gz) {a : List Int} {g : rHp} : ∀ (ρ : Nat → Int) (γ : Nat → rHp), zO 4 S a g q14_5 ρ γ → zGl (fun i vs g1 => jn14 a g i vs g1) (sn14 a g) q14_5 ρ γ := by
  intro ρ γ h
  obtain ⟨ha, hg, hr, hf, hm, hc, hl⟩ := h
  have ha : a = [ρ 0, ρ 1, ρ 2, ρ 3] := ha
  subst ha
  subst hg
  obtain ⟨-, -, -, -, r4, -⟩ := hr
  have r4 : ((-128) : Int) ≤ ρ 4 ∧ ρ 4 ≤ 127 := r4
  obtain ⟨f0, -⟩ := hf
  have f0 : (0 : Int) ≤ ρ 1 + -ρ 0 + (-6) := f0
  obtain ⟨w_0, w_1, w_2, w_3, w_4⟩ : (0 ≤ ρ 1 + -ρ 0 + (-2)) ∧ (0 ≤ ρ 1 + -ρ 0 + (-3)) ∧ (0 ≤ ρ 1 + -ρ 0 + (-4)) ∧ (0 ≤ ρ 1 + -ρ 0 + (-5)) ∧ (0 ≤ ρ 1 + -ρ 0 + (-6)) := ⟨by omega, by omega, by omega, by omega, by omega⟩
  obtain ⟨m0, m1, -⟩ := hm
  have m0 : γ 0 15 0 35 = ρ 0 := m0
  have m1 : γ 0 15 0 34 = ρ 1 := m1
  obtain ⟨⟨⟨-, c19⟩, c20⟩, c21⟩ := hc
  have c19 : γ 19 = rUp (γ 18) 15 0 35 (ρ 0 + 5) := c19
  have c20 : γ 20 = rUp (γ 19) 15 0 39 (ρ 14 + (10 * ρ 12 + (100 * ρ 10 + (1000 * ρ 8 + 10000 * ρ 6))) + (-533328)) := c20
  have c21 : γ 21 = rUp (γ 20) 15 0 40 0 := c21
  obtain ⟨l0, l1, l2, l3, l4, l5, l6, l7, l8, l9, l10, l11, l12, l13, l14, l15, l16, l17, l18, -⟩ := hl
  have l0 : sn6 [ρ 0, ρ 1] (γ 0) 0 (ρ 4) (γ 1) := hS6 _ _ _ _ _ l0
  have l1 : ρ 4 ≠ 45 := l1
  have l2 : sn6 [ρ 0, ρ 1] (γ 1) 0 (ρ 5) (γ 2) := hS6 _ _ _ _ _ l2
  have l3 : sn11 [ρ 5] (γ 2) 0 1 (γ 3) := hS11 _ _ _ _ _ l3
  have l4 : sn6 [ρ 0, ρ 1] (γ 3) 0 (ρ 6) (γ 4) := hS6 _ _ _ _ _ l4
  have l5 : sn6 [ρ 0 + 1, ρ 1] (γ 4) 0 (ρ 7) (γ 5) := hS6 _ _ _ _ _ l5
  have l6 : sn11 [ρ 7] (γ 5) 0 1 (γ 6) := hS11 _ _ _ _ _ l6
  have l7 : sn6 [ρ 0 + 1, ρ 1] (γ 6) 0 (ρ 8) (γ 7) := hS6 _ _ _ _ _ l7
  have l8 : sn6 [ρ 0 + 2, ρ 1] (γ 7) 0 (ρ 9) (γ 8) := hS6 _ _ _ _ _ l8
  have l9 : sn11 [ρ 9] (γ 8) 0 1 (γ 9) := hS11 _ _ _ _ _ l9
  have l10 : sn6 [ρ 0 + 2, ρ 1] (γ 9) 0 (ρ 10) (γ 10) := hS6 _ _ _ _ _ l10
  have l11 : sn6 [ρ 0 + 3, ρ 1] (γ 10) 0 (ρ 11) (γ 11) := hS6 _ _ _ _ _ l11
  have l12 : sn11 [ρ 11] (γ 11) 0 1 (γ 12) := hS11 _ _ _ _ _ l12
  have l13 : sn6 [ρ 0 + 3, ρ 1] (γ 12) 0 (ρ 12) (γ 13) := hS6 _ _ _ _ _ l13
  have l14 : sn6 [ρ 0 + 4, ρ 1] (γ 13) 0 (ρ 13) (γ 14) := hS6 _ _ _ _ _ l14
  have l15 : sn11 [ρ 13] (γ 14) 0 1 (γ 15) := hS11 _ _ _ _ _ l15
  have l16 : sn6 [ρ 0 + 4, ρ 1] (γ 15) 0 (ρ 14) (γ 16) := hS6 _ _ _ _ _ l16
  have l17 : sn6 [ρ 0 + 5, ρ 1] (γ 16) 0 (ρ 15) (γ 17) := hS6 _ _ _ _ _ l17
  have l18 : sn11 [ρ 15] (γ 17) 0 0 (γ 18) := hS11 _ _ _ _ _ l18
  have wl_0 : ρ 4 ≠ 45 := by omega
  show sn14 [ρ 0, ρ 1, ρ 2, ρ 3] (γ 0) 0 1 (γ 21)
  have hD : dn14 [] (γ 0) = .inr (0, 1, γ 21) := by
    unfold dn14
    refine (zLet_eq m0).trans ?_
    refine (zLet_eq m1).trans ?_
    refine (zLet_eq (show fn6 [ρ 0] (γ 0) = (0, ρ 4, γ 1) from l0.symm)).trans ?_
    refine (zLet_eq (show _ = γ 1 from rfl)).trans ?_
    refine (zLet_eq (show _ = ρ 4 from rfl)).trans ?_
    refine (if_pos wl_0).trans ?_
    refine (zLet_eq (show fn6 [ρ 0] (γ 1) = (0, ρ 5, γ 2) from l2.symm)).trans ?_
    refine (zLet_eq (show _ = γ 2 from rfl)).trans ?_
    refine (zLet_eq (show _ = ρ 5 from rfl)).trans ?_
    refine (zLet_eq (show fn11 [ρ 5] (γ 2) = (0, 1, γ 3) from l3.symm)).trans ?_
    refine (zLet_eq (show _ = γ 3 from rfl)).trans ?_
    refine (if_pos zQ1_).trans ?_
    refine (zLet_eq (show fn6 [ρ 0] (γ 3) = (0, ρ 6, γ 4) from l4.symm)).trans ?_
    refine (zLet_eq (show _ = γ 4 from rfl)).trans ?_
    refine (zLet_eq (show _ = ρ 6 from rfl)).trans ?_
    refine (zLet_eq (show fn6 [ρ 0 + 1] (γ 4) = (0, ρ 7, γ 5) from l5.symm)).trans ?_
    refine (zLet_eq (show _ = γ 5 from rfl)).trans ?_
    refine (if_pos w_0).trans ?_
    refine (zLet_eq (show _ = ρ 7 from rfl)).trans ?_
    refine (zLet_eq (show fn11 [ρ 7] (γ 5) = (0, 1, γ 6) from l6.symm)).trans ?_
    refine (zLet_eq (show _ = γ 6 from rfl)).trans ?_
    refine (if_pos zQ1_).trans ?_
    refine (zLet_eq (show fn6 [ρ 0 + 1] (γ 6) = (0, ρ 8, γ 7) from l7.symm)).trans ?_
    refine (zLet_eq (show _ = γ 7 from rfl)).trans ?_
    refine (zLet_eq (show _ = ρ 8 from rfl)).trans ?_
    refine (zLet_eq (show fn6 [ρ 0 + 2] (γ 7) = (0, ρ 9, γ 8) from l8.symm)).trans ?_
    refine (zLet_eq (show _ = γ 8 from rfl)).trans ?_
    refine (if_pos w_1).trans ?_
    refine (zLet_eq (show _ = ρ 9 from rfl)).trans ?_
    refine (zLet_eq (show fn11 [ρ 9] (γ 8) = (0, 1, γ 9) from l9.symm)).trans ?_
    refine (zLet_eq (show _ = γ 9 from rfl)).trans ?_
    refine (if_pos zQ1_).trans ?_
    refine (zLet_eq (show fn6 [ρ 0 + 2] (γ 9) = (0, ρ 10, γ 10) from l10.symm)).trans ?_
    refine (zLet_eq (show _ = γ 10 from rfl)).trans ?_
    refine (zLet_eq (show _ = ρ 10 from rfl)).trans ?_
    refine (zLet_eq (show fn6 [ρ 0 + 3] (γ 10) = (0, ρ 11, γ 11) from l11.symm)).trans ?_
    refine (zLet_eq (show _ = γ 11 from rfl)).trans ?_
    refine (if_pos w_2).trans ?_
    refine (zLet_eq (show _ = ρ 11 from rfl)).trans ?_
    refine (zLet_eq (show fn11 [ρ 11] (γ 11) = (0, 1, γ 12) from l12.symm)).trans ?_
    refine (zLet_eq (show _ = γ 12 from rfl)).trans ?_
    refine (if_pos zQ1_).trans ?_
    refine (zLet_eq (show fn6 [ρ 0 + 3] (γ 12) = (0, ρ 12, γ 13) from l13.symm)).trans ?_
    refine (zLet_eq (show _ = γ 13 from rfl)).trans ?_
    refine (zLet_eq (show _ = ρ 12 from rfl)).trans ?_
    refine (zLet_eq (show fn6 [ρ 0 + 4] (γ 13) = (0, ρ 13, γ 14) from l14.symm)).trans ?_
    refine (zLet_eq (show _ = γ 14 from rfl)).trans ?_
    refine (if_pos w_3).trans ?_
    refine (zLet_eq (show _ = ρ 13 from rfl)).trans ?_
    refine (zLet_eq (show fn11 [ρ 13] (γ 14) = (0, 1, γ 15) from l15.symm)).trans ?_
    refine (zLet_eq (show _ = γ 15 from rfl)).trans ?_
    refine (if_pos zQ1_).trans ?_
    refine (zLet_eq (show fn6 [ρ 0 + 4] (γ 15) = (0, ρ 14, γ 16) from l16.symm)).trans ?_
    refine (zLet_eq (show _ = γ 16 from rfl)).trans ?_
    refine (zLet_eq (show _ = ρ 14 from rfl)).trans ?_
    refine (zLet_eq (show fn6 [ρ 0 + 5] (γ 16) = (0, ρ 15, γ 17) from l17.symm)).trans ?_
    refine (zLet_eq (show _ = γ 17 from rfl)).trans ?_
    refine (if_pos w_4).trans ?_
    refine (zLet_eq (show _ = ρ 15 from rfl)).trans ?_
    refine (zLet_eq (show fn11 [ρ 15] (γ 17) = (0, 0, γ 18) from l18.symm)).trans ?_
    refine (zLet_eq (show _ = γ 18 from rfl)).trans ?_
    refine (if_neg zQ0_).trans ?_
    refine (zLet_eq c19.symm).trans ?_
    refine (zLet_eq c20.symm).trans ?_
    refine (zLet_eq c21.symm).trans ?_
    rfl
  exact zGoo_end hD
theorem vn14_6 {S : Nat → zSpc} (hS6 : ∀ x g o v gz, S 6 x g o v gz → sn6 x g o v gz) (hS8 : ∀ x g o v gz, S 8 x g o v gz → sn8 x g o v gz) (hS11 : ∀ x g o v gz, S 11 x g o v gz → sn11 x g o v gz) {a : List Int} {g : rHp} : ∀ (ρ : Nat → Int) (γ : Nat → rHp), zO 4 S a g q14_6 ρ γ → zGl (fun i vs g1 => jn14 a g i vs g1) (sn14 a g) q14_6 ρ γ := by
  intro ρ γ h
  obtain ⟨ha, hg, hr, hf, hm, hc, hl⟩ := h
  have ha : a = [ρ 0, ρ 1, ρ 2, ρ 3] := ha
  subst ha
  subst hg
  obtain ⟨-, -, -, -, r4, -⟩ := hr
  have r4 : ((-128) : Int) ≤ ρ 4 ∧ ρ 4 ≤ 127 := r4
  obtain ⟨f0, -⟩ := hf
  have f0 : (0 : Int) ≤ ρ 1 + -ρ 0 + (-7) := f0
  obtain ⟨w_0, w_1, w_2, w_3, w_4, w_5⟩ : (0 ≤ ρ 1 + -ρ 0 + (-2)) ∧ (0 ≤ ρ 1 + -ρ 0 + (-3)) ∧ (0 ≤ ρ 1 + -ρ 0 + (-4)) ∧ (0 ≤ ρ 1 + -ρ 0 + (-5)) ∧ (0 ≤ ρ 1 + -ρ 0 + (-6)) ∧ (0 ≤ ρ 1 + -ρ 0 + (-7)) := ⟨by omega, by omega, by omega, by omega, by omega, by omega⟩
  obtain ⟨m0, m1, -⟩ := hm
  have m0 : γ 0 15 0 35 = ρ 0 := m0
  have m1 : γ 0 15 0 34 = ρ 1 := m1
  obtain ⟨⟨⟨-, c22⟩, c23⟩, c24⟩ := hc
  have c22 : γ 22 = rUp (γ 21) 15 0 35 (ρ 0 + 6) := c22
  have c23 : γ 23 = rUp (γ 22) 15 0 39 (ρ 16 + (10 * ρ 14 + (100 * ρ 12 + (1000 * ρ 10 + (10000 * ρ 8 + 100000 * ρ 6)))) + (-5333328)) := c23
  have c24 : γ 24 = rUp (γ 23) 15 0 40 0 := c24
  obtain ⟨l0, l1, l2, l3, l4, l5, l6, l7, l8, l9, l10, l11, l12, l13, l14, l15, l16, l17, l18, l19, l20, l21, -⟩ := hl
  have l0 : sn6 [ρ 0, ρ 1] (γ 0) 0 (ρ 4) (γ 1) := hS6 _ _ _ _ _ l0
  have l1 : ρ 4 ≠ 45 := l1
  have l2 : sn6 [ρ 0, ρ 1] (γ 1) 0 (ρ 5) (γ 2) := hS6 _ _ _ _ _ l2
  have l3 : sn11 [ρ 5] (γ 2) 0 1 (γ 3) := hS11 _ _ _ _ _ l3
  have l4 : sn6 [ρ 0, ρ 1] (γ 3) 0 (ρ 6) (γ 4) := hS6 _ _ _ _ _ l4
  have l5 : sn6 [ρ 0 + 1, ρ 1] (γ 4) 0 (ρ 7) (γ 5) := hS6 _ _ _ _ _ l5
  have l6 : sn11 [ρ 7] (γ 5) 0 1 (γ 6) := hS11 _ _ _ _ _ l6
  have l7 : sn6 [ρ 0 + 1, ρ 1] (γ 6) 0 (ρ 8) (γ 7) := hS6 _ _ _ _ _ l7
  have l8 : sn6 [ρ 0 + 2, ρ 1] (γ 7) 0 (ρ 9) (γ 8) := hS6 _ _ _ _ _ l8
  have l9 : sn11 [ρ 9] (γ 8) 0 1 (γ 9) := hS11 _ _ _ _ _ l9
  have l10 : sn6 [ρ 0 + 2, ρ 1] (γ 9) 0 (ρ 10) (γ 10) := hS6 _ _ _ _ _ l10
  have l11 : sn6 [ρ 0 + 3, ρ 1] (γ 10) 0 (ρ 11) (γ 11) := hS6 _ _ _ _ _ l11
  have l12 : sn11 [ρ 11] (γ 11) 0 1 (γ 12) := hS11 _ _ _ _ _ l12
  have l13 : sn6 [ρ 0 + 3, ρ 1] (γ 12) 0 (ρ 12) (γ 13) := hS6 _ _ _ _ _ l13
  have l14 : sn6 [ρ 0 + 4, ρ 1] (γ 13) 0 (ρ 13) (γ 14) := hS6 _ _ _ _ _ l14
  have l15 : sn11 [ρ 13] (γ 14) 0 1 (γ 15) := hS11 _ _ _ _ _ l15
  have l16 : sn6 [ρ 0 + 4, ρ 1] (γ 15) 0 (ρ 14) (γ 16) := hS6 _ _ _ _ _ l16
  have l17 : sn6 [ρ 0 + 5, ρ 1] (γ 16) 0 (ρ 15) (γ 17) := hS6 _ _ _ _ _ l17
  have l18 : sn11 [ρ 15] (γ 17) 0 1 (γ 18) := hS11 _ _ _ _ _ l18
  have l19 : sn6 [ρ 0 + 5, ρ 1] (γ 18) 0 (ρ 16) (γ 19) := hS6 _ _ _ _ _ l19
  have l20 : sn6 [ρ 0 + 6, ρ 1] (γ 19) 0 (ρ 17) (γ 20) := hS6 _ _ _ _ _ l20
  have l21 : sn11 [ρ 17] (γ 20) 0 0 (γ 21) := hS11 _ _ _ _ _ l21
  have wl_0 : ρ 4 ≠ 45 := by omega
  show sn14 [ρ 0, ρ 1, ρ 2, ρ 3] (γ 0) 0 1 (γ 24)
  have hD : dn14 [] (γ 0) = .inr (0, 1, γ 24) := by
    unfold dn14
    refine (zLet_eq m0).trans ?_
    refine (zLet_eq m1).trans ?_
    refine (zLet_eq (show fn6 [ρ 0] (γ 0) = (0, ρ 4, γ 1) from l0.symm)).trans ?_
    refine (zLet_eq (show _ = γ 1 from rfl)).trans ?_
    refine (zLet_eq (show _ = ρ 4 from rfl)).trans ?_
    refine (if_pos wl_0).trans ?_
    refine (zLet_eq (show fn6 [ρ 0] (γ 1) = (0, ρ 5, γ 2) from l2.symm)).trans ?_
    refine (zLet_eq (show _ = γ 2 from rfl)).trans ?_
    refine (zLet_eq (show _ = ρ 5 from rfl)).trans ?_
    refine (zLet_eq (show fn11 [ρ 5] (γ 2) = (0, 1, γ 3) from l3.symm)).trans ?_
    refine (zLet_eq (show _ = γ 3 from rfl)).trans ?_
    refine (if_pos zQ1_).trans ?_
    refine (zLet_eq (show fn6 [ρ 0] (γ 3) = (0, ρ 6, γ 4) from l4.symm)).trans ?_
    refine (zLet_eq (show _ = γ 4 from rfl)).trans ?_
    refine (zLet_eq (show _ = ρ 6 from rfl)).trans ?_
    refine (zLet_eq (show fn6 [ρ 0 + 1] (γ 4) = (0, ρ 7, γ 5) from l5.symm)).trans ?_
    refine (zLet_eq (show _ = γ 5 from rfl)).trans ?_
    refine (if_pos w_0).trans ?_
    refine (zLet_eq (show _ = ρ 7 from rfl)).trans ?_
    refine (zLet_eq (show fn11 [ρ 7] (γ 5) = (0, 1, γ 6) from l6.symm)).trans ?_
    refine (zLet_eq (show _ = γ 6 from rfl)).trans ?_
    refine (if_pos zQ1_).trans ?_
    refine (zLet_eq (show fn6 [ρ 0 + 1] (γ 6) = (0, ρ 8, γ 7) from l7.symm)).trans ?_
    refine (zLet_eq (show _ = γ 7 from rfl)).trans ?_
    refine (zLet_eq (show _ = ρ 8 from rfl)).trans ?_
    refine (zLet_eq (show fn6 [ρ 0 + 2] (γ 7) = (0, ρ 9, γ 8) from l8.symm)).trans ?_
    refine (zLet_eq (show _ = γ 8 from rfl)).trans ?_
    refine (if_pos w_1).trans ?_
    refine (zLet_eq (show _ = ρ 9 from rfl)).trans ?_
    refine (zLet_eq (show fn11 [ρ 9] (γ 8) = (0, 1, γ 9) from l9.symm)).trans ?_
    refine (zLet_eq (show _ = γ 9 from rfl)).trans ?_
    refine (if_pos zQ1_).trans ?_
    refine (zLet_eq (show fn6 [ρ 0 + 2] (γ 9) = (0, ρ 10, γ 10) from l10.symm)).trans ?_
    refine (zLet_eq (show _ = γ 10 from rfl)).trans ?_
    refine (zLet_eq (show _ = ρ 10 from rfl)).trans ?_
    refine (zLet_eq (show fn6 [ρ 0 + 3] (γ 10) = (0, ρ 11, γ 11) from l11.symm)).trans ?_
    refine (zLet_eq (show _ = γ 11 from rfl)).trans ?_
    refine (if_pos w_2).trans ?_
    refine (zLet_eq (show _ = ρ 11 from rfl)).trans ?_
    refine (zLet_eq (show fn11 [ρ 11] (γ 11) = (0, 1, γ 12) from l12.symm)).trans ?_
    refine (zLet_eq (show _ = γ 12 from rfl)).trans ?_
    refine (if_pos zQ1_).trans ?_
    refine (zLet_eq (show fn6 [ρ 0 + 3] (γ 12) = (0, ρ 12, γ 13) from l13.symm)).trans ?_
    refine (zLet_eq (show _ = γ 13 from rfl)).trans ?_
    refine (zLet_eq (show _ = ρ 12 from rfl)).trans ?_
    refine (zLet_eq (show fn6 [ρ 0 + 4] (γ 13) = (0, ρ 13, γ 14) from l14.symm)).trans ?_
    refine (zLet_eq (show _ = γ 14 from rfl)).trans ?_
    refine (if_pos w_3).trans ?_
    refine (zLet_eq (show _ = ρ 13 from rfl)).trans ?_
    refine (zLet_eq (show fn11 [ρ 13] (γ 14) = (0, 1, γ 15) from l15.symm)).trans ?_
    refine (zLet_eq (show _ = γ 15 from rfl)).trans ?_
    refine (if_pos zQ1_).trans ?_
    refine (zLet_eq (show fn6 [ρ 0 + 4] (γ 15) = (0, ρ 14, γ 16) from l16.symm)).trans ?_
    refine (zLet_eq (show _ = γ 16 from rfl)).trans ?_
    refine (zLet_eq (show _ = ρ 14 from rfl)).trans ?_
    refine (zLet_eq (show fn6 [ρ 0 + 5] (γ 16) = (0, ρ 15, γ 17) from l17.symm)).trans ?_
    refine (zLet_eq (show _ = γ 17 from rfl)).trans ?_
    refine (if_pos w_4).trans ?_
    refine (zLet_eq (show _ = ρ 15 from rfl)).trans ?_
    refine (zLet_eq (show fn11 [ρ 15] (γ 17) = (0, 1, γ 18) from l18.symm)).trans ?_
    refine (zLet_eq (show _ = γ 18 from rfl)).trans ?_
    refine (if_pos zQ1_).trans ?_
    refine (zLet_eq (show fn6 [ρ 0 + 5] (γ 18) = (0, ρ 16, γ 19) from l19.symm)).trans ?_
    refine (zLet_eq (show _ = γ 19 from rfl)).trans ?_
    refine (zLet_eq (show _ = ρ 16 from rfl)).trans ?_
    refine (zLet_eq (show fn6 [ρ 0 + 6] (γ 19) = (0, ρ 17, γ 20) from l20.symm)).trans ?_
    refine (zLet_eq (show _ = γ 20 from rfl)).trans ?_
    refine (if_pos w_5).trans ?_
    refine (zLet_eq (show _ = ρ 17 from rfl)).trans ?_
    refine (zLet_eq (show fn11 [ρ 17] (γ 20) = (0, 0, γ 21) from l21.symm)).trans ?_
    refine (zLet_eq (show _ = γ 21 from rfl)).trans ?_
    refine (if_neg zQ0_).trans ?_
    refine (zLet_eq c22.symm).trans ?_
    refine (zLet_eq c23.symm).trans ?_
    refine (zLet_eq c24.symm).trans ?_
    rfl
  exact zGoo_end hD
theorem vn14_7 {S : Nat → zSpc} (hS6 : ∀ x g o v gz, S 6 x g o v gz → sn6 x g o v gz) (hS8 : ∀ x g o v gz, S 8 x g o v gz → sn8 x g o v gz) (hS11 : ∀ x g o v gz, S 11 x g o v gz → sn11 x g o v gz) {a : List Int} {g : rHp} : ∀ (ρ : Nat → Int) (γ : Nat → rHp), zO 4 S a g q14_7 ρ γ → zGl (fun i vs g1 => jn14 a g i vs g1) (sn14 a g) q14_7 ρ γ := by
  intro ρ γ h
  obtain ⟨ha, hg, hr, hf, hm, hc, hl⟩ := h
  have ha : a = [ρ 0, ρ 1, ρ 2, ρ 3] := ha
  subst ha
  subst hg
  obtain ⟨-, -, -, -, r4, -⟩ := hr
  have r4 : ((-128) : Int) ≤ ρ 4 ∧ ρ 4 ≤ 127 := r4
  obtain ⟨f0, -⟩ := hf
  have f0 : (0 : Int) ≤ ρ 1 + -ρ 0 + (-8) := f0
  obtain ⟨w_0, w_1, w_2, w_3, w_4, w_5, w_6⟩ : (0 ≤ ρ 1 + -ρ 0 + (-2)) ∧ (0 ≤ ρ 1 + -ρ 0 + (-3)) ∧ (0 ≤ ρ 1 + -ρ 0 + (-4)) ∧ (0 ≤ ρ 1 + -ρ 0 + (-5)) ∧ (0 ≤ ρ 1 + -ρ 0 + (-6)) ∧ (0 ≤ ρ 1 + -ρ 0 + (-7)) ∧ (0 ≤ ρ 1 + -ρ 0 + (-8)) := ⟨by omega, by omega, by omega, by omega, by omega, by omega, by omega⟩
  obtain ⟨m0, m1, -⟩ := hm
  have m0 : γ 0 15 0 35 = ρ 0 := m0
  have m1 : γ 0 15 0 34 = ρ 1 := m1
  obtain ⟨⟨⟨-, c25⟩, c26⟩, c27⟩ := hc
  have c25 : γ 25 = rUp (γ 24) 15 0 35 (ρ 0 + 7) := c25
  have c26 : γ 26 = rUp (γ 25) 15 0 39 (ρ 18 + (10 * ρ 16 + (100 * ρ 14 + (1000 * ρ 12 + (10000 * ρ 10 + (100000 * ρ 8 + 1000000 * ρ 6))))) + (-53333328)) := c26
  have c27 : γ 27 = rUp (γ 26) 15 0 40 0 := c27
  obtain ⟨l0, l1, l2, l3, l4, l5, l6, l7, l8, l9, l10, l11, l12, l13, l14, l15, l16, l17, l18, l19, l20, l21, l22, l23, l24, -⟩ := hl
  have l0 : sn6 [ρ 0, ρ 1] (γ 0) 0 (ρ 4) (γ 1) := hS6 _ _ _ _ _ l0
  have l1 : ρ 4 ≠ 45 := l1
  have l2 : sn6 [ρ 0, ρ 1] (γ 1) 0 (ρ 5) (γ 2) := hS6 _ _ _ _ _ l2
  have l3 : sn11 [ρ 5] (γ 2) 0 1 (γ 3) := hS11 _ _ _ _ _ l3
  have l4 : sn6 [ρ 0, ρ 1] (γ 3) 0 (ρ 6) (γ 4) := hS6 _ _ _ _ _ l4
  have l5 : sn6 [ρ 0 + 1, ρ 1] (γ 4) 0 (ρ 7) (γ 5) := hS6 _ _ _ _ _ l5
  have l6 : sn11 [ρ 7] (γ 5) 0 1 (γ 6) := hS11 _ _ _ _ _ l6
  have l7 : sn6 [ρ 0 + 1, ρ 1] (γ 6) 0 (ρ 8) (γ 7) := hS6 _ _ _ _ _ l7
  have l8 : sn6 [ρ 0 + 2, ρ 1] (γ 7) 0 (ρ 9) (γ 8) := hS6 _ _ _ _ _ l8
  have l9 : sn11 [ρ 9] (γ 8) 0 1 (γ 9) := hS11 _ _ _ _ _ l9
  have l10 : sn6 [ρ 0 + 2, ρ 1] (γ 9) 0 (ρ 10) (γ 10) := hS6 _ _ _ _ _ l10
  have l11 : sn6 [ρ 0 + 3, ρ 1] (γ 10) 0 (ρ 11) (γ 11) := hS6 _ _ _ _ _ l11
  have l12 : sn11 [ρ 11] (γ 11) 0 1 (γ 12) := hS11 _ _ _ _ _ l12
  have l13 : sn6 [ρ 0 + 3, ρ 1] (γ 12) 0 (ρ 12) (γ 13) := hS6 _ _ _ _ _ l13
  have l14 : sn6 [ρ 0 + 4, ρ 1] (γ 13) 0 (ρ 13) (γ 14) := hS6 _ _ _ _ _ l14
  have l15 : sn11 [ρ 13] (γ 14) 0 1 (γ 15) := hS11 _ _ _ _ _ l15
  have l16 : sn6 [ρ 0 + 4, ρ 1] (γ 15) 0 (ρ 14) (γ 16) := hS6 _ _ _ _ _ l16
  have l17 : sn6 [ρ 0 + 5, ρ 1] (γ 16) 0 (ρ 15) (γ 17) := hS6 _ _ _ _ _ l17
  have l18 : sn11 [ρ 15] (γ 17) 0 1 (γ 18) := hS11 _ _ _ _ _ l18
  have l19 : sn6 [ρ 0 + 5, ρ 1] (γ 18) 0 (ρ 16) (γ 19) := hS6 _ _ _ _ _ l19
  have l20 : sn6 [ρ 0 + 6, ρ 1] (γ 19) 0 (ρ 17) (γ 20) := hS6 _ _ _ _ _ l20
  have l21 : sn11 [ρ 17] (γ 20) 0 1 (γ 21) := hS11 _ _ _ _ _ l21
  have l22 : sn6 [ρ 0 + 6, ρ 1] (γ 21) 0 (ρ 18) (γ 22) := hS6 _ _ _ _ _ l22
  have l23 : sn6 [ρ 0 + 7, ρ 1] (γ 22) 0 (ρ 19) (γ 23) := hS6 _ _ _ _ _ l23
  have l24 : sn11 [ρ 19] (γ 23) 0 0 (γ 24) := hS11 _ _ _ _ _ l24
  have wl_0 : ρ 4 ≠ 45 := by omega
  show sn14 [ρ 0, ρ 1, ρ 2, ρ 3] (γ 0) 0 1 (γ 27)
  have hD : dn14 [] (γ 0) = .inr (0, 1, γ 27) := by
    unfold dn14
    refine (zLet_eq m0).trans ?_
    refine (zLet_eq m1).trans ?_
    refine (zLet_eq (show fn6 [ρ 0] (γ 0) = (0, ρ 4, γ 1) from l0.symm)).trans ?_
    refine (zLet_eq (show _ = γ 1 from rfl)).trans ?_
    refine (zLet_eq (show _ = ρ 4 from rfl)).trans ?_
    refine (if_pos wl_0).trans ?_
    refine (zLet_eq (show fn6 [ρ 0] (γ 1) = (0, ρ 5, γ 2) from l2.symm)).trans ?_
    refine (zLet_eq (show _ = γ 2 from rfl)).trans ?_
    refine (zLet_eq (show _ = ρ 5 from rfl)).trans ?_
    refine (zLet_eq (show fn11 [ρ 5] (γ 2) = (0, 1, γ 3) from l3.symm)).trans ?_
    refine (zLet_eq (show _ = γ 3 from rfl)).trans ?_
    refine (if_pos zQ1_).trans ?_
    refine (zLet_eq (show fn6 [ρ 0] (γ 3) = (0, ρ 6, γ 4) from l4.symm)).trans ?_
    refine (zLet_eq (show _ = γ 4 from rfl)).trans ?_
    refine (zLet_eq (show _ = ρ 6 from rfl)).trans ?_
    refine (zLet_eq (show fn6 [ρ 0 + 1] (γ 4) = (0, ρ 7, γ 5) from l5.symm)).trans ?_
    refine (zLet_eq (show _ = γ 5 from rfl)).trans ?_
    refine (if_pos w_0).trans ?_
    refine (zLet_eq (show _ = ρ 7 from rfl)).trans ?_
    refine (zLet_eq (show fn11 [ρ 7] (γ 5) = (0, 1, γ 6) from l6.symm)).trans ?_
    refine (zLet_eq (show _ = γ 6 from rfl)).trans ?_
    refine (if_pos zQ1_).trans ?_
    refine (zLet_eq (show fn6 [ρ 0 + 1] (γ 6) = (0, ρ 8, γ 7) from l7.symm)).trans ?_
    refine (zLet_eq (show _ = γ 7 from rfl)).trans ?_
    refine (zLet_eq (show _ = ρ 8 from rfl)).trans ?_
    refine (zLet_eq (show fn6 [ρ 0 + 2] (γ 7) = (0, ρ 9, γ 8) from l8.symm)).trans ?_
    refine (zLet_eq (show _ = γ 8 from rfl)).trans ?_
    refine (if_pos w_1).trans ?_
    refine (zLet_eq (show _ = ρ 9 from rfl)).trans ?_
    refine (zLet_eq (show fn11 [ρ 9] (γ 8) = (0, 1, γ 9) from l9.symm)).trans ?_
    refine (zLet_eq (show _ = γ 9 from rfl)).trans ?_
    refine (if_pos zQ1_).trans ?_
    refine (zLet_eq (show fn6 [ρ 0 + 2] (γ 9) = (0, ρ 10, γ 10) from l10.symm)).trans ?_
    refine (zLet_eq (show _ = γ 10 from rfl)).trans ?_
    refine (zLet_eq (show _ = ρ 10 from rfl)).trans ?_
    refine (zLet_eq (show fn6 [ρ 0 + 3] (γ 10) = (0, ρ 11, γ 11) from l11.symm)).trans ?_
    refine (zLet_eq (show _ = γ 11 from rfl)).trans ?_
    refine (if_pos w_2).trans ?_
    refine (zLet_eq (show _ = ρ 11 from rfl)).trans ?_
    refine (zLet_eq (show fn11 [ρ 11] (γ 11) = (0, 1, γ 12) from l12.symm)).trans ?_
    refine (zLet_eq (show _ = γ 12 from rfl)).trans ?_
    refine (if_pos zQ1_).trans ?_
    refine (zLet_eq (show fn6 [ρ 0 + 3] (γ 12) = (0, ρ 12, γ 13) from l13.symm)).trans ?_
    refine (zLet_eq (show _ = γ 13 from rfl)).trans ?_
    refine (zLet_eq (show _ = ρ 12 from rfl)).trans ?_
    refine (zLet_eq (show fn6 [ρ 0 + 4] (γ 13) = (0, ρ 13, γ 14) from l14.symm)).trans ?_
    refine (zLet_eq (show _ = γ 14 from rfl)).trans ?_
    refine (if_pos w_3).trans ?_
    refine (zLet_eq (show _ = ρ 13 from rfl)).trans ?_
    refine (zLet_eq (show fn11 [ρ 13] (γ 14) = (0, 1, γ 15) from l15.symm)).trans ?_
    refine (zLet_eq (show _ = γ 15 from rfl)).trans ?_
    refine (if_pos zQ1_).trans ?_
    refine (zLet_eq (show fn6 [ρ 0 + 4] (γ 15) = (0, ρ 14, γ 16) from l16.symm)).trans ?_
    refine (zLet_eq (show _ = γ 16 from rfl)).trans ?_
    refine (zLet_eq (show _ = ρ 14 from rfl)).trans ?_
    refine (zLet_eq (show fn6 [ρ 0 + 5] (γ 16) = (0, ρ 15, γ 17) from l17.symm)).trans ?_
    refine (zLet_eq (show _ = γ 17 from rfl)).trans ?_
    refine (if_pos w_4).trans ?_
    refine (zLet_eq (show _ = ρ 15 from rfl)).trans ?_
    refine (zLet_eq (show fn11 [ρ 15] (γ 17) = (0, 1, γ 18) from l18.symm)).trans ?_
    refine (zLet_eq (show _ = γ 18 from rfl)).trans ?_
    refine (if_pos zQ1_).trans ?_
    refine (zLet_eq (show fn6 [ρ 0 + 5] (γ 18) = (0, ρ 16, γ 19) from l19.symm)).trans ?_
    refine (zLet_eq (show _ = γ 19 from rfl)).trans ?_
    refine (zLet_eq (show _ = ρ 16 from rfl)).trans ?_
    refine (zLet_eq (show fn6 [ρ 0 + 6] (γ 19) = (0, ρ 17, γ 20) from l20.symm)).trans ?_
    refine (zLet_eq (show _ = γ 20 from rfl)).trans ?_
    refine (if_pos w_5).trans ?_
    refine (zLet_eq (show _ = ρ 17 from rfl)).trans ?_
    refine (zLet_eq (show fn11 [ρ 17] (γ 20) = (0, 1, γ 21) from l21.symm)).trans ?_
    refine (zLet_eq (show _ = γ 21 from rfl)).trans ?_
    refine (if_pos zQ1_).trans ?_
    refine (zLet_eq (show fn6 [ρ 0 + 6] (γ 21) = (0, ρ 18, γ 22) from l22.symm)).trans ?_
    refine (zLet_eq (show _ = γ 22 from rfl)).trans ?_
    refine (zLet_eq (show _ = ρ 18 from rfl)).trans ?_
    refine (zLet_eq (show fn6 [ρ 0 + 7] (γ 22) = (0, ρ 19, γ 23) from l23.symm)).trans ?_
    refine (zLet_eq (show _ = γ 23 from rfl)).trans ?_
    refine (if_pos w_6).trans ?_
    refine (zLet_eq (show _ = ρ 19 from rfl)).trans ?_
    refine (zLet_eq (show fn11 [ρ 19] (γ 23) = (0, 0, γ 24) from l24.symm)).trans ?_
    refine (zLet_eq (show _ = γ 24 from rfl)).trans ?_
    refine (if_neg zQ0_).trans ?_
    refine (zLet_eq c25.symm).trans ?_
    refine (zLet_eq c26.symm).trans ?_
    refine (zLet_eq c27.symm).trans ?_
    rfl
  exact zGoo_end hD
theorem vn14_8 {S : Nat → zSpc} (hS6 : ∀ x g o v gz, S 6 x g o v gz → sn6 x g o v gz) (hS8 : ∀ x g o v gz, S 8 x g o v gz → sn8 x g o v gz) (hS11 : ∀ x g o v gz, S 11 x g o v gz → sn11 x g o v gz) {a : List Int} {g : rHp} : ∀ (ρ : Nat → Int) (γ : Nat → rHp), zO 4 S a g q14_8 ρ γ → zGl (fun i vs g1 => jn14 a g i vs g1) (sn14 a g) q14_8 ρ γ := by
  intro ρ γ h
  obtain ⟨ha, hg, hr, hf, hm, hc, hl⟩ := h
  have ha : a = [ρ 0, ρ 1, ρ 2, ρ 3] := ha
  subst ha
  subst hg
  obtain ⟨-, -, -, -, r4, -⟩ := hr
  have r4 : ((-128) : Int) ≤ ρ 4 ∧ ρ 4 ≤ 127 := r4
  obtain ⟨f0, -⟩ := hf
  have f0 : (0 : Int) ≤ ρ 1 + -ρ 0 + (-8) := f0
  obtain ⟨w_0, w_1, w_2, w_3, w_4, w_5, w_6⟩ : (0 ≤ ρ 1 + -ρ 0 + (-2)) ∧ (0 ≤ ρ 1 + -ρ 0 + (-3)) ∧ (0 ≤ ρ 1 + -ρ 0 + (-4)) ∧ (0 ≤ ρ 1 + -ρ 0 + (-5)) ∧ (0 ≤ ρ 1 + -ρ 0 + (-6)) ∧ (0 ≤ ρ 1 + -ρ 0 + (-7)) ∧ (0 ≤ ρ 1 + -ρ 0 + (-8)) := ⟨by omega, by omega, by omega, by omega, by omega, by omega, by omega⟩
  obtain ⟨m0, m1, -⟩ := hm
  have m0 : γ 0 15 0 35 = ρ 0 := m0
  have m1 : γ 0 15 0 34 = ρ 1 := m1
  obtain ⟨l0, l1, l2, l3, l4, l5, l6, l7, l8, l9, l10, l11, l12, l13, l14, l15, l16, l17, l18, l19, l20, l21, l22, l23, l24, l25, -⟩ := hl
  have l0 : sn6 [ρ 0, ρ 1] (γ 0) 0 (ρ 4) (γ 1) := hS6 _ _ _ _ _ l0
  have l1 : ρ 4 ≠ 45 := l1
  have l2 : sn6 [ρ 0, ρ 1] (γ 1) 0 (ρ 5) (γ 2) := hS6 _ _ _ _ _ l2
  have l3 : sn11 [ρ 5] (γ 2) 0 1 (γ 3) := hS11 _ _ _ _ _ l3
  have l4 : sn6 [ρ 0, ρ 1] (γ 3) 0 (ρ 6) (γ 4) := hS6 _ _ _ _ _ l4
  have l5 : sn6 [ρ 0 + 1, ρ 1] (γ 4) 0 (ρ 7) (γ 5) := hS6 _ _ _ _ _ l5
  have l6 : sn11 [ρ 7] (γ 5) 0 1 (γ 6) := hS11 _ _ _ _ _ l6
  have l7 : sn6 [ρ 0 + 1, ρ 1] (γ 6) 0 (ρ 8) (γ 7) := hS6 _ _ _ _ _ l7
  have l8 : sn6 [ρ 0 + 2, ρ 1] (γ 7) 0 (ρ 9) (γ 8) := hS6 _ _ _ _ _ l8
  have l9 : sn11 [ρ 9] (γ 8) 0 1 (γ 9) := hS11 _ _ _ _ _ l9
  have l10 : sn6 [ρ 0 + 2, ρ 1] (γ 9) 0 (ρ 10) (γ 10) := hS6 _ _ _ _ _ l10
  have l11 : sn6 [ρ 0 + 3, ρ 1] (γ 10) 0 (ρ 11) (γ 11) := hS6 _ _ _ _ _ l11
  have l12 : sn11 [ρ 11] (γ 11) 0 1 (γ 12) := hS11 _ _ _ _ _ l12
  have l13 : sn6 [ρ 0 + 3, ρ 1] (γ 12) 0 (ρ 12) (γ 13) := hS6 _ _ _ _ _ l13
  have l14 : sn6 [ρ 0 + 4, ρ 1] (γ 13) 0 (ρ 13) (γ 14) := hS6 _ _ _ _ _ l14
  have l15 : sn11 [ρ 13] (γ 14) 0 1 (γ 15) := hS11 _ _ _ _ _ l15
  have l16 : sn6 [ρ 0 + 4, ρ 1] (γ 15) 0 (ρ 14) (γ 16) := hS6 _ _ _ _ _ l16
  have l17 : sn6 [ρ 0 + 5, ρ 1] (γ 16) 0 (ρ 15) (γ 17) := hS6 _ _ _ _ _ l17
  have l18 : sn11 [ρ 15] (γ 17) 0 1 (γ 18) := hS11 _ _ _ _ _ l18
  have l19 : sn6 [ρ 0 + 5, ρ 1] (γ 18) 0 (ρ 16) (γ 19) := hS6 _ _ _ _ _ l19
  have l20 : sn6 [ρ 0 + 6, ρ 1] (γ 19) 0 (ρ 17) (γ 20) := hS6 _ _ _ _ _ l20
  have l21 : sn11 [ρ 17] (γ 20) 0 1 (γ 21) := hS11 _ _ _ _ _ l21
  have l22 : sn6 [ρ 0 + 6, ρ 1] (γ 21) 0 (ρ 18) (γ 22) := hS6 _ _ _ _ _ l22
  have l23 : sn6 [ρ 0 + 7, ρ 1] (γ 22) 0 (ρ 19) (γ 23) := hS6 _ _ _ _ _ l23
  have l24 : sn11 [ρ 19] (γ 23) 0 1 (γ 24) := hS11 _ _ _ _ _ l24
  have l25 : sn6 [ρ 0 + 7, ρ 1] (γ 24) 0 (ρ 20) (γ 25) := hS6 _ _ _ _ _ l25
  have wl_0 : ρ 4 ≠ 45 := by omega
  show jn14 [ρ 0, ρ 1, ρ 2, ρ 3] (γ 0) 0 [ρ 0, ρ 1, ρ 2, ρ 3, ρ 0 + 8, ρ 20 + (10 * ρ 18 + (100 * ρ 16 + (1000 * ρ 14 + (10000 * ρ 12 + (100000 * ρ 10 + (1000000 * ρ 8 + 10000000 * ρ 6)))))) + (-533333328), ρ 0, 0] (γ 25)
  have hD : dn14 [] (γ 0) = .inl (0, [ρ 0 + 8, ρ 20 + (10 * ρ 18 + (100 * ρ 16 + (1000 * ρ 14 + (10000 * ρ 12 + (100000 * ρ 10 + (1000000 * ρ 8 + 10000000 * ρ 6)))))) + (-533333328), ρ 0, 0], γ 25) := by
    unfold dn14
    refine (zLet_eq m0).trans ?_
    refine (zLet_eq m1).trans ?_
    refine (zLet_eq (show fn6 [ρ 0] (γ 0) = (0, ρ 4, γ 1) from l0.symm)).trans ?_
    refine (zLet_eq (show _ = γ 1 from rfl)).trans ?_
    refine (zLet_eq (show _ = ρ 4 from rfl)).trans ?_
    refine (if_pos wl_0).trans ?_
    refine (zLet_eq (show fn6 [ρ 0] (γ 1) = (0, ρ 5, γ 2) from l2.symm)).trans ?_
    refine (zLet_eq (show _ = γ 2 from rfl)).trans ?_
    refine (zLet_eq (show _ = ρ 5 from rfl)).trans ?_
    refine (zLet_eq (show fn11 [ρ 5] (γ 2) = (0, 1, γ 3) from l3.symm)).trans ?_
    refine (zLet_eq (show _ = γ 3 from rfl)).trans ?_
    refine (if_pos zQ1_).trans ?_
    refine (zLet_eq (show fn6 [ρ 0] (γ 3) = (0, ρ 6, γ 4) from l4.symm)).trans ?_
    refine (zLet_eq (show _ = γ 4 from rfl)).trans ?_
    refine (zLet_eq (show _ = ρ 6 from rfl)).trans ?_
    refine (zLet_eq (show fn6 [ρ 0 + 1] (γ 4) = (0, ρ 7, γ 5) from l5.symm)).trans ?_
    refine (zLet_eq (show _ = γ 5 from rfl)).trans ?_
    refine (if_pos w_0).trans ?_
    refine (zLet_eq (show _ = ρ 7 from rfl)).trans ?_
    refine (zLet_eq (show fn11 [ρ 7] (γ 5) = (0, 1, γ 6) from l6.symm)).trans ?_
    refine (zLet_eq (show _ = γ 6 from rfl)).trans ?_
    refine (if_pos zQ1_).trans ?_
    refine (zLet_eq (show fn6 [ρ 0 + 1] (γ 6) = (0, ρ 8, γ 7) from l7.symm)).trans ?_
    refine (zLet_eq (show _ = γ 7 from rfl)).trans ?_
    refine (zLet_eq (show _ = ρ 8 from rfl)).trans ?_
    refine (zLet_eq (show fn6 [ρ 0 + 2] (γ 7) = (0, ρ 9, γ 8) from l8.symm)).trans ?_
    refine (zLet_eq (show _ = γ 8 from rfl)).trans ?_
    refine (if_pos w_1).trans ?_
    refine (zLet_eq (show _ = ρ 9 from rfl)).trans ?_
    refine (zLet_eq (show fn11 [ρ 9] (γ 8) = (0, 1, γ 9) from l9.symm)).trans ?_
    refine (zLet_eq (show _ = γ 9 from rfl)).trans ?_
    refine (if_pos zQ1_).trans ?_
    refine (zLet_eq (show fn6 [ρ 0 + 2] (γ 9) = (0, ρ 10, γ 10) from l10.symm)).trans ?_
    refine (zLet_eq (show _ = γ 10 from rfl)).trans ?_
    refine (zLet_eq (show _ = ρ 10 from rfl)).trans ?_
    refine (zLet_eq (show fn6 [ρ 0 + 3] (γ 10) = (0, ρ 11, γ 11) from l11.symm)).trans ?_
    refine (zLet_eq (show _ = γ 11 from rfl)).trans ?_
    refine (if_pos w_2).trans ?_
    refine (zLet_eq (show _ = ρ 11 from rfl)).trans ?_
    refine (zLet_eq (show fn11 [ρ 11] (γ 11) = (0, 1, γ 12) from l12.symm)).trans ?_
    refine (zLet_eq (show _ = γ 12 from rfl)).trans ?_
    refine (if_pos zQ1_).trans ?_
    refine (zLet_eq (show fn6 [ρ 0 + 3] (γ 12) = (0, ρ 12, γ 13) from l13.symm)).trans ?_
    refine (zLet_eq (show _ = γ 13 from rfl)).trans ?_
    refine (zLet_eq (show _ = ρ 12 from rfl)).trans ?_
    refine (zLet_eq (show fn6 [ρ 0 + 4] (γ 13) = (0, ρ 13, γ 14) from l14.symm)).trans ?_
    refine (zLet_eq (show _ = γ 14 from rfl)).trans ?_
    refine (if_pos w_3).trans ?_
    refine (zLet_eq (show _ = ρ 13 from rfl)).trans ?_
    refine (zLet_eq (show fn11 [ρ 13] (γ 14) = (0, 1, γ 15) from l15.symm)).trans ?_
    refine (zLet_eq (show _ = γ 15 from rfl)).trans ?_
    refine (if_pos zQ1_).trans ?_
    refine (zLet_eq (show fn6 [ρ 0 + 4] (γ 15) = (0, ρ 14, γ 16) from l16.symm)).trans ?_
    refine (zLet_eq (show _ = γ 16 from rfl)).trans ?_
    refine (zLet_eq (show _ = ρ 14 from rfl)).trans ?_
    refine (zLet_eq (show fn6 [ρ 0 + 5] (γ 16) = (0, ρ 15, γ 17) from l17.symm)).trans ?_
    refine (zLet_eq (show _ = γ 17 from rfl)).trans ?_
    refine (if_pos w_4).trans ?_
    refine (zLet_eq (show _ = ρ 15 from rfl)).trans ?_
    refine (zLet_eq (show fn11 [ρ 15] (γ 17) = (0, 1, γ 18) from l18.symm)).trans ?_
    refine (zLet_eq (show _ = γ 18 from rfl)).trans ?_
    refine (if_pos zQ1_).trans ?_
    refine (zLet_eq (show fn6 [ρ 0 + 5] (γ 18) = (0, ρ 16, γ 19) from l19.symm)).trans ?_
    refine (zLet_eq (show _ = γ 19 from rfl)).trans ?_
    refine (zLet_eq (show _ = ρ 16 from rfl)).trans ?_
    refine (zLet_eq (show fn6 [ρ 0 + 6] (γ 19) = (0, ρ 17, γ 20) from l20.symm)).trans ?_
    refine (zLet_eq (show _ = γ 20 from rfl)).trans ?_
    refine (if_pos w_5).trans ?_
    refine (zLet_eq (show _ = ρ 17 from rfl)).trans ?_
    refine (zLet_eq (show fn11 [ρ 17] (γ 20) = (0, 1, γ 21) from l21.symm)).trans ?_
    refine (zLet_eq (show _ = γ 21 from rfl)).trans ?_
    refine (if_pos zQ1_).trans ?_
    refine (zLet_eq (show fn6 [ρ 0 + 6] (γ 21) = (0, ρ 18, γ 22) from l22.symm)).trans ?_
    refine (zLet_eq (show _ = γ 22 from rfl)).trans ?_
    refine (zLet_eq (show _ = ρ 18 from rfl)).trans ?_
    refine (zLet_eq (show fn6 [ρ 0 + 7] (γ 22) = (0, ρ 19, γ 23) from l23.symm)).trans ?_
    refine (zLet_eq (show _ = γ 23 from rfl)).trans ?_
    refine (if_pos w_6).trans ?_
    refine (zLet_eq (show _ = ρ 19 from rfl)).trans ?_
    refine (zLet_eq (show fn11 [ρ 19] (γ 23) = (0, 1, γ 24) from l24.symm)).trans ?_
    refine (zLet_eq (show _ = γ 24 from rfl)).trans ?_
    refine (if_pos zQ1_).trans ?_
    refine (zLet_eq (show fn6 [ρ 0 + 7] (γ 24) = (0, ρ 20, γ 25) from l25.symm)).trans ?_
    refine (zLet_eq (show _ = γ 25 from rfl)).trans ?_
    refine (zLet_eq (show _ = ρ 20 from rfl)).trans ?_
    rfl
  exact zGoo_to hD
theorem vn14_9 {S : Nat → zSpc} (hS6 : ∀ x g o v gz, S 6 x g o v gz → sn6 x g o v gz) (hS8 : ∀ x g o v gz, S 8 x g o v gz → sn8 x g o v gz) (hS11 : ∀ x g o v gz, S 11 x g o v gz → sn11 x g o v gz) {a : List Int} {g : rHp} : ∀ (ρ : Nat → Int) (γ : Nat → rHp), zO 4 S a g q14_9 ρ γ → zGl (fun i vs g1 => jn14 a g i vs g1) (sn14 a g) q14_9 ρ γ := by
  intro ρ γ h
  obtain ⟨ha, hg, hr, hf, hm, hc, hl⟩ := h
  have ha : a = [ρ 0, ρ 1, ρ 2, ρ 3] := ha
  subst ha
  subst hg
  obtain ⟨-, -, -, -, r4, -⟩ := hr
  have r4 : ((-128) : Int) ≤ ρ 4 ∧ ρ 4 ≤ 127 := r4
  obtain ⟨f0, f1, -⟩ := hf
  have f0 : (0 : Int) ≤ -ρ 1 + ρ 0 + 7 := f0
  have f1 : (0 : Int) ≤ ρ 1 + -ρ 0 + (-7) := f1
  obtain ⟨w_0, w_1, w_2, w_3, w_4, w_5, w_6⟩ : (0 ≤ ρ 1 + -ρ 0 + (-2)) ∧ (0 ≤ ρ 1 + -ρ 0 + (-3)) ∧ (0 ≤ ρ 1 + -ρ 0 + (-4)) ∧ (0 ≤ ρ 1 + -ρ 0 + (-5)) ∧ (0 ≤ ρ 1 + -ρ 0 + (-6)) ∧ (0 ≤ ρ 1 + -ρ 0 + (-7)) ∧ (¬ (0 ≤ ρ 1 + -ρ 0 + (-8))) := ⟨by omega, by omega, by omega, by omega, by omega, by omega, by omega⟩
  obtain ⟨m0, m1, -⟩ := hm
  have m0 : γ 0 15 0 35 = ρ 0 := m0
  have m1 : γ 0 15 0 34 = ρ 1 := m1
  obtain ⟨⟨⟨-, c25⟩, c26⟩, c27⟩ := hc
  have c25 : γ 25 = rUp (γ 24) 15 0 35 (ρ 0 + 7) := c25
  have c26 : γ 26 = rUp (γ 25) 15 0 39 (ρ 18 + (10 * ρ 16 + (100 * ρ 14 + (1000 * ρ 12 + (10000 * ρ 10 + (100000 * ρ 8 + 1000000 * ρ 6))))) + (-53333328)) := c26
  have c27 : γ 27 = rUp (γ 26) 15 0 40 0 := c27
  obtain ⟨l0, l1, l2, l3, l4, l5, l6, l7, l8, l9, l10, l11, l12, l13, l14, l15, l16, l17, l18, l19, l20, l21, l22, l23, l24, -⟩ := hl
  have l0 : sn6 [ρ 0, ρ 1] (γ 0) 0 (ρ 4) (γ 1) := hS6 _ _ _ _ _ l0
  have l1 : ρ 4 ≠ 45 := l1
  have l2 : sn6 [ρ 0, ρ 1] (γ 1) 0 (ρ 5) (γ 2) := hS6 _ _ _ _ _ l2
  have l3 : sn11 [ρ 5] (γ 2) 0 1 (γ 3) := hS11 _ _ _ _ _ l3
  have l4 : sn6 [ρ 0, ρ 1] (γ 3) 0 (ρ 6) (γ 4) := hS6 _ _ _ _ _ l4
  have l5 : sn6 [ρ 0 + 1, ρ 1] (γ 4) 0 (ρ 7) (γ 5) := hS6 _ _ _ _ _ l5
  have l6 : sn11 [ρ 7] (γ 5) 0 1 (γ 6) := hS11 _ _ _ _ _ l6
  have l7 : sn6 [ρ 0 + 1, ρ 1] (γ 6) 0 (ρ 8) (γ 7) := hS6 _ _ _ _ _ l7
  have l8 : sn6 [ρ 0 + 2, ρ 1] (γ 7) 0 (ρ 9) (γ 8) := hS6 _ _ _ _ _ l8
  have l9 : sn11 [ρ 9] (γ 8) 0 1 (γ 9) := hS11 _ _ _ _ _ l9
  have l10 : sn6 [ρ 0 + 2, ρ 1] (γ 9) 0 (ρ 10) (γ 10) := hS6 _ _ _ _ _ l10
  have l11 : sn6 [ρ 0 + 3, ρ 1] (γ 10) 0 (ρ 11) (γ 11) := hS6 _ _ _ _ _ l11
  have l12 : sn11 [ρ 11] (γ 11) 0 1 (γ 12) := hS11 _ _ _ _ _ l12
  have l13 : sn6 [ρ 0 + 3, ρ 1] (γ 12) 0 (ρ 12) (γ 13) := hS6 _ _ _ _ _ l13
  have l14 : sn6 [ρ 0 + 4, ρ 1] (γ 13) 0 (ρ 13) (γ 14) := hS6 _ _ _ _ _ l14
  have l15 : sn11 [ρ 13] (γ 14) 0 1 (γ 15) := hS11 _ _ _ _ _ l15
  have l16 : sn6 [ρ 0 + 4, ρ 1] (γ 15) 0 (ρ 14) (γ 16) := hS6 _ _ _ _ _ l16
  have l17 : sn6 [ρ 0 + 5, ρ 1] (γ 16) 0 (ρ 15) (γ 17) := hS6 _ _ _ _ _ l17
  have l18 : sn11 [ρ 15] (γ 17) 0 1 (γ 18) := hS11 _ _ _ _ _ l18
  have l19 : sn6 [ρ 0 + 5, ρ 1] (γ 18) 0 (ρ 16) (γ 19) := hS6 _ _ _ _ _ l19
  have l20 : sn6 [ρ 0 + 6, ρ 1] (γ 19) 0 (ρ 17) (γ 20) := hS6 _ _ _ _ _ l20
  have l21 : sn11 [ρ 17] (γ 20) 0 1 (γ 21) := hS11 _ _ _ _ _ l21
  have l22 : sn6 [ρ 0 + 6, ρ 1] (γ 21) 0 (ρ 18) (γ 22) := hS6 _ _ _ _ _ l22
  have l23 : sn6 [ρ 0 + 7, ρ 1] (γ 22) 0 (-1) (γ 23) := hS6 _ _ _ _ _ l23
  have l24 : sn11 [(-1)] (γ 23) 0 0 (γ 24) := hS11 _ _ _ _ _ l24
  have wl_0 : ρ 4 ≠ 45 := by omega
  show sn14 [ρ 0, ρ 1, ρ 2, ρ 3] (γ 0) 0 1 (γ 27)
  have hD : dn14 [] (γ 0) = .inr (0, 1, γ 27) := by
    unfold dn14
    refine (zLet_eq m0).trans ?_
    refine (zLet_eq m1).trans ?_
    refine (zLet_eq (show fn6 [ρ 0] (γ 0) = (0, ρ 4, γ 1) from l0.symm)).trans ?_
    refine (zLet_eq (show _ = γ 1 from rfl)).trans ?_
    refine (zLet_eq (show _ = ρ 4 from rfl)).trans ?_
    refine (if_pos wl_0).trans ?_
    refine (zLet_eq (show fn6 [ρ 0] (γ 1) = (0, ρ 5, γ 2) from l2.symm)).trans ?_
    refine (zLet_eq (show _ = γ 2 from rfl)).trans ?_
    refine (zLet_eq (show _ = ρ 5 from rfl)).trans ?_
    refine (zLet_eq (show fn11 [ρ 5] (γ 2) = (0, 1, γ 3) from l3.symm)).trans ?_
    refine (zLet_eq (show _ = γ 3 from rfl)).trans ?_
    refine (if_pos zQ1_).trans ?_
    refine (zLet_eq (show fn6 [ρ 0] (γ 3) = (0, ρ 6, γ 4) from l4.symm)).trans ?_
    refine (zLet_eq (show _ = γ 4 from rfl)).trans ?_
    refine (zLet_eq (show _ = ρ 6 from rfl)).trans ?_
    refine (zLet_eq (show fn6 [ρ 0 + 1] (γ 4) = (0, ρ 7, γ 5) from l5.symm)).trans ?_
    refine (zLet_eq (show _ = γ 5 from rfl)).trans ?_
    refine (if_pos w_0).trans ?_
    refine (zLet_eq (show _ = ρ 7 from rfl)).trans ?_
    refine (zLet_eq (show fn11 [ρ 7] (γ 5) = (0, 1, γ 6) from l6.symm)).trans ?_
    refine (zLet_eq (show _ = γ 6 from rfl)).trans ?_
    refine (if_pos zQ1_).trans ?_
    refine (zLet_eq (show fn6 [ρ 0 + 1] (γ 6) = (0, ρ 8, γ 7) from l7.symm)).trans ?_
    refine (zLet_eq (show _ = γ 7 from rfl)).trans ?_
    refine (zLet_eq (show _ = ρ 8 from rfl)).trans ?_
    refine (zLet_eq (show fn6 [ρ 0 + 2] (γ 7) = (0, ρ 9, γ 8) from l8.symm)).trans ?_
    refine (zLet_eq (show _ = γ 8 from rfl)).trans ?_
    refine (if_pos w_1).trans ?_
    refine (zLet_eq (show _ = ρ 9 from rfl)).trans ?_
    refine (zLet_eq (show fn11 [ρ 9] (γ 8) = (0, 1, γ 9) from l9.symm)).trans ?_
    refine (zLet_eq (show _ = γ 9 from rfl)).trans ?_
    refine (if_pos zQ1_).trans ?_
    refine (zLet_eq (show fn6 [ρ 0 + 2] (γ 9) = (0, ρ 10, γ 10) from l10.symm)).trans ?_
    refine (zLet_eq (show _ = γ 10 from rfl)).trans ?_
    refine (zLet_eq (show _ = ρ 10 from rfl)).trans ?_
    refine (zLet_eq (show fn6 [ρ 0 + 3] (γ 10) = (0, ρ 11, γ 11) from l11.symm)).trans ?_
    refine (zLet_eq (show _ = γ 11 from rfl)).trans ?_
    refine (if_pos w_2).trans ?_
    refine (zLet_eq (show _ = ρ 11 from rfl)).trans ?_
    refine (zLet_eq (show fn11 [ρ 11] (γ 11) = (0, 1, γ 12) from l12.symm)).trans ?_
    refine (zLet_eq (show _ = γ 12 from rfl)).trans ?_
    refine (if_pos zQ1_).trans ?_
    refine (zLet_eq (show fn6 [ρ 0 + 3] (γ 12) = (0, ρ 12, γ 13) from l13.symm)).trans ?_
    refine (zLet_eq (show _ = γ 13 from rfl)).trans ?_
    refine (zLet_eq (show _ = ρ 12 from rfl)).trans ?_
    refine (zLet_eq (show fn6 [ρ 0 + 4] (γ 13) = (0, ρ 13, γ 14) from l14.symm)).trans ?_
    refine (zLet_eq (show _ = γ 14 from rfl)).trans ?_
    refine (if_pos w_3).trans ?_
    refine (zLet_eq (show _ = ρ 13 from rfl)).trans ?_
    refine (zLet_eq (show fn11 [ρ 13] (γ 14) = (0, 1, γ 15) from l15.symm)).trans ?_
    refine (zLet_eq (show _ = γ 15 from rfl)).trans ?_
    refine (if_pos zQ1_).trans ?_
    refine (zLet_eq (show fn6 [ρ 0 + 4] (γ 15) = (0, ρ 14, γ 16) from l16.symm)).trans ?_
    refine (zLet_eq (show _ = γ 16 from rfl)).trans ?_
    refine (zLet_eq (show _ = ρ 14 from rfl)).trans ?_
    refine (zLet_eq (show fn6 [ρ 0 + 5] (γ 16) = (0, ρ 15, γ 17) from l17.symm)).trans ?_
    refine (zLet_eq (show _ = γ 17 from rfl)).trans ?_
    refine (if_pos w_4).trans ?_
    refine (zLet_eq (show _ = ρ 15 from rfl)).trans ?_
    refine (zLet_eq (show fn11 [ρ 15] (γ 17) = (0, 1, γ 18) from l18.symm)).trans ?_
    refine (zLet_eq (show _ = γ 18 from rfl)).trans ?_
    refine (if_pos zQ1_).trans ?_
    refine (zLet_eq (show fn6 [ρ 0 + 5] (γ 18) = (0, ρ 16, γ 19) from l19.symm)).trans ?_
    refine (zLet_eq (show _ = γ 19 from rfl)).trans ?_
    refine (zLet_eq (show _ = ρ 16 from rfl)).trans ?_
    refine (zLet_eq (show fn6 [ρ 0 + 6] (γ 19) = (0, ρ 17, γ 20) from l20.symm)).trans ?_
    refine (zLet_eq (show _ = γ 20 from rfl)).trans ?_
    refine (if_pos w_5).trans ?_
    refine (zLet_eq (show _ = ρ 17 from rfl)).trans ?_
    refine (zLet_eq (show fn11 [ρ 17] (γ 20) = (0, 1, γ 21) from l21.symm)).trans ?_
    refine (zLet_eq (show _ = γ 21 from rfl)).trans ?_
    refine (if_pos zQ1_).trans ?_
    refine (zLet_eq (show fn6 [ρ 0 + 6] (γ 21) = (0, ρ 18, γ 22) from l22.symm)).trans ?_
    refine (zLet_eq (show _ = γ 22 from rfl)).trans ?_
    refine (zLet_eq (show _ = ρ 18 from rfl)).trans ?_
    refine (zLet_eq (show fn6 [ρ 0 + 7] (γ 22) = (0, (-1), γ 23) from l23.symm)).trans ?_
    refine (zLet_eq (show _ = γ 23 from rfl)).trans ?_
    refine (if_neg w_6).trans ?_
    refine (zLet_eq (show fn11 [(-1)] (γ 23) = (0, 0, γ 24) from l24.symm)).trans ?_
    refine (zLet_eq (show _ = γ 24 from rfl)).trans ?_
    refine (zLet_eq c25.symm).trans ?_
    refine (zLet_eq c26.symm).trans ?_
    refine (zLet_eq c27.symm).trans ?_
    rfl
  exact zGoo_end hD
theorem vn14_10 {S : Nat → zSpc} (hS6 : ∀ x g o v gz, S 6 x g o v gz → sn6 x g o v gz) (hS8 : ∀ x g o v gz, S 8 x g o v gz → sn8 x g o v gz) (hS11 : ∀ x g o v gz, S 11 x g o v gz → sn11 x g o v gz) {a : List Int} {g : rHp} : ∀ (ρ : Nat → Int) (γ : Nat → rHp), zO 4 S a g q14_10 ρ γ → zGl (fun i vs g1 => jn14 a g i vs g1) (sn14 a g) q14_10 ρ γ := by
  intro ρ γ h
  obtain ⟨ha, hg, hr, hf, hm, hc, hl⟩ := h
  have ha : a = [ρ 0, ρ 1, ρ 2, ρ 3] := ha
  subst ha
  subst hg
  obtain ⟨-, -, -, -, r4, -⟩ := hr
  have r4 : ((-128) : Int) ≤ ρ 4 ∧ ρ 4 ≤ 127 := r4
  obtain ⟨f0, f1, -⟩ := hf
  have f0 : (0 : Int) ≤ -ρ 1 + ρ 0 + 6 := f0
  have f1 : (0 : Int) ≤ ρ 1 + -ρ 0 + (-6) := f1
  obtain ⟨w_0, w_1, w_2, w_3, w_4, w_5⟩ : (0 ≤ ρ 1 + -ρ 0 + (-2)) ∧ (0 ≤ ρ 1 + -ρ 0 + (-3)) ∧ (0 ≤ ρ 1 + -ρ 0 + (-4)) ∧ (0 ≤ ρ 1 + -ρ 0 + (-5)) ∧ (0 ≤ ρ 1 + -ρ 0 + (-6)) ∧ (¬ (0 ≤ ρ 1 + -ρ 0 + (-7))) := ⟨by omega, by omega, by omega, by omega, by omega, by omega⟩
  obtain ⟨m0, m1, -⟩ := hm
  have m0 : γ 0 15 0 35 = ρ 0 := m0
  have m1 : γ 0 15 0 34 = ρ 1 := m1
  obtain ⟨⟨⟨-, c22⟩, c23⟩, c24⟩ := hc
  have c22 : γ 22 = rUp (γ 21) 15 0 35 (ρ 0 + 6) := c22
  have c23 : γ 23 = rUp (γ 22) 15 0 39 (ρ 16 + (10 * ρ 14 + (100 * ρ 12 + (1000 * ρ 10 + (10000 * ρ 8 + 100000 * ρ 6)))) + (-5333328)) := c23
  have c24 : γ 24 = rUp (γ 23) 15 0 40 0 := c24
  obtain ⟨l0, l1, l2, l3, l4, l5, l6, l7, l8, l9, l10, l11, l12, l13, l14, l15, l16, l17, l18, l19, l20, l21, -⟩ := hl
  have l0 : sn6 [ρ 0, ρ 1] (γ 0) 0 (ρ 4) (γ 1) := hS6 _ _ _ _ _ l0
  have l1 : ρ 4 ≠ 45 := l1
  have l2 : sn6 [ρ 0, ρ 1] (γ 1) 0 (ρ 5) (γ 2) := hS6 _ _ _ _ _ l2
  have l3 : sn11 [ρ 5] (γ 2) 0 1 (γ 3) := hS11 _ _ _ _ _ l3
  have l4 : sn6 [ρ 0, ρ 1] (γ 3) 0 (ρ 6) (γ 4) := hS6 _ _ _ _ _ l4
  have l5 : sn6 [ρ 0 + 1, ρ 1] (γ 4) 0 (ρ 7) (γ 5) := hS6 _ _ _ _ _ l5
  have l6 : sn11 [ρ 7] (γ 5) 0 1 (γ 6) := hS11 _ _ _ _ _ l6
  have l7 : sn6 [ρ 0 + 1, ρ 1] (γ 6) 0 (ρ 8) (γ 7) := hS6 _ _ _ _ _ l7
  have l8 : sn6 [ρ 0 + 2, ρ 1] (γ 7) 0 (ρ 9) (γ 8) := hS6 _ _ _ _ _ l8
  have l9 : sn11 [ρ 9] (γ 8) 0 1 (γ 9) := hS11 _ _ _ _ _ l9
  have l10 : sn6 [ρ 0 + 2, ρ 1] (γ 9) 0 (ρ 10) (γ 10) := hS6 _ _ _ _ _ l10
  have l11 : sn6 [ρ 0 + 3, ρ 1] (γ 10) 0 (ρ 11) (γ 11) := hS6 _ _ _ _ _ l11
  have l12 : sn11 [ρ 11] (γ 11) 0 1 (γ 12) := hS11 _ _ _ _ _ l12
  have l13 : sn6 [ρ 0 + 3, ρ 1] (γ 12) 0 (ρ 12) (γ 13) := hS6 _ _ _ _ _ l13
  have l14 : sn6 [ρ 0 + 4, ρ 1] (γ 13) 0 (ρ 13) (γ 14) := hS6 _ _ _ _ _ l14
  have l15 : sn11 [ρ 13] (γ 14) 0 1 (γ 15) := hS11 _ _ _ _ _ l15
  have l16 : sn6 [ρ 0 + 4, ρ 1] (γ 15) 0 (ρ 14) (γ 16) := hS6 _ _ _ _ _ l16
  have l17 : sn6 [ρ 0 + 5, ρ 1] (γ 16) 0 (ρ 15) (γ 17) := hS6 _ _ _ _ _ l17
  have l18 : sn11 [ρ 15] (γ 17) 0 1 (γ 18) := hS11 _ _ _ _ _ l18
  have l19 : sn6 [ρ 0 + 5, ρ 1] (γ 18) 0 (ρ 16) (γ 19) := hS6 _ _ _ _ _ l19
  have l20 : sn6 [ρ 0 + 6, ρ 1] (γ 19) 0 (-1) (γ 20) := hS6 _ _ _ _ _ l20
  have l21 : sn11 [(-1)] (γ 20) 0 0 (γ 21) := hS11 _ _ _ _ _ l21
  have wl_0 : ρ 4 ≠ 45 := by omega
  show sn14 [ρ 0, ρ 1, ρ 2, ρ 3] (γ 0) 0 1 (γ 24)
  have hD : dn14 [] (γ 0) = .inr (0, 1, γ 24) := by
    unfold dn14
    refine (zLet_eq m0).trans ?_
    refine (zLet_eq m1).trans ?_
    refine (zLet_eq (show fn6 [ρ 0] (γ 0) = (0, ρ 4, γ 1) from l0.symm)).trans ?_
    refine (zLet_eq (show _ = γ 1 from rfl)).trans ?_
    refine (zLet_eq (show _ = ρ 4 from rfl)).trans ?_
    refine (if_pos wl_0).trans ?_
    refine (zLet_eq (show fn6 [ρ 0] (γ 1) = (0, ρ 5, γ 2) from l2.symm)).trans ?_
    refine (zLet_eq (show _ = γ 2 from rfl)).trans ?_
    refine (zLet_eq (show _ = ρ 5 from rfl)).trans ?_
    refine (zLet_eq (show fn11 [ρ 5] (γ 2) = (0, 1, γ 3) from l3.symm)).trans ?_
    refine (zLet_eq (show _ = γ 3 from rfl)).trans ?_
    refine (if_pos zQ1_).trans ?_
    refine (zLet_eq (show fn6 [ρ 0] (γ 3) = (0, ρ 6, γ 4) from l4.symm)).trans ?_
    refine (zLet_eq (show _ = γ 4 from rfl)).trans ?_
    refine (zLet_eq (show _ = ρ 6 from rfl)).trans ?_
    refine (zLet_eq (show fn6 [ρ 0 + 1] (γ 4) = (0, ρ 7, γ 5) from l5.symm)).trans ?_
    refine (zLet_eq (show _ = γ 5 from rfl)).trans ?_
    refine (if_pos w_0).trans ?_
    refine (zLet_eq (show _ = ρ 7 from rfl)).trans ?_
    refine (zLet_eq (show fn11 [ρ 7] (γ 5) = (0, 1, γ 6) from l6.symm)).trans ?_
    refine (zLet_eq (show _ = γ 6 from rfl)).trans ?_
    refine (if_pos zQ1_).trans ?_
    refine (zLet_eq (show fn6 [ρ 0 + 1] (γ 6) = (0, ρ 8, γ 7) from l7.symm)).trans ?_
    refine (zLet_eq (show _ = γ 7 from rfl)).trans ?_
    refine (zLet_eq (show _ = ρ 8 from rfl)).trans ?_
    refine (zLet_eq (show fn6 [ρ 0 + 2] (γ 7) = (0, ρ 9, γ 8) from l8.symm)).trans ?_
    refine (zLet_eq (show _ = γ 8 from rfl)).trans ?_
    refine (if_pos w_1).trans ?_
    refine (zLet_eq (show _ = ρ 9 from rfl)).trans ?_
    refine (zLet_eq (show fn11 [ρ 9] (γ 8) = (0, 1, γ 9) from l9.symm)).trans ?_
    refine (zLet_eq (show _ = γ 9 from rfl)).trans ?_
    refine (if_pos zQ1_).trans ?_
    refine (zLet_eq (show fn6 [ρ 0 + 2] (γ 9) = (0, ρ 10, γ 10) from l10.symm)).trans ?_
    refine (zLet_eq (show _ = γ 10 from rfl)).trans ?_
    refine (zLet_eq (show _ = ρ 10 from rfl)).trans ?_
    refine (zLet_eq (show fn6 [ρ 0 + 3] (γ 10) = (0, ρ 11, γ 11) from l11.symm)).trans ?_
    refine (zLet_eq (show _ = γ 11 from rfl)).trans ?_
    refine (if_pos w_2).trans ?_
    refine (zLet_eq (show _ = ρ 11 from rfl)).trans ?_
    refine (zLet_eq (show fn11 [ρ 11] (γ 11) = (0, 1, γ 12) from l12.symm)).trans ?_
    refine (zLet_eq (show _ = γ 12 from rfl)).trans ?_
    refine (if_pos zQ1_).trans ?_
    refine (zLet_eq (show fn6 [ρ 0 + 3] (γ 12) = (0, ρ 12, γ 13) from l13.symm)).trans ?_
    refine (zLet_eq (show _ = γ 13 from rfl)).trans ?_
    refine (zLet_eq (show _ = ρ 12 from rfl)).trans ?_
    refine (zLet_eq (show fn6 [ρ 0 + 4] (γ 13) = (0, ρ 13, γ 14) from l14.symm)).trans ?_
    refine (zLet_eq (show _ = γ 14 from rfl)).trans ?_
    refine (if_pos w_3).trans ?_
    refine (zLet_eq (show _ = ρ 13 from rfl)).trans ?_
    refine (zLet_eq (show fn11 [ρ 13] (γ 14) = (0, 1, γ 15) from l15.symm)).trans ?_
    refine (zLet_eq (show _ = γ 15 from rfl)).trans ?_
    refine (if_pos zQ1_).trans ?_
    refine (zLet_eq (show fn6 [ρ 0 + 4] (γ 15) = (0, ρ 14, γ 16) from l16.symm)).trans ?_
    refine (zLet_eq (show _ = γ 16 from rfl)).trans ?_
    refine (zLet_eq (show _ = ρ 14 from rfl)).trans ?_
    refine (zLet_eq (show fn6 [ρ 0 + 5] (γ 16) = (0, ρ 15, γ 17) from l17.symm)).trans ?_
    refine (zLet_eq (show _ = γ 17 from rfl)).trans ?_
    refine (if_pos w_4).trans ?_
    refine (zLet_eq (show _ = ρ 15 from rfl)).trans ?_
    refine (zLet_eq (show fn11 [ρ 15] (γ 17) = (0, 1, γ 18) from l18.symm)).trans ?_
    refine (zLet_eq (show _ = γ 18 from rfl)).trans ?_
    refine (if_pos zQ1_).trans ?_
    refine (zLet_eq (show fn6 [ρ 0 + 5] (γ 18) = (0, ρ 16, γ 19) from l19.symm)).trans ?_
    refine (zLet_eq (show _ = γ 19 from rfl)).trans ?_
    refine (zLet_eq (show _ = ρ 16 from rfl)).trans ?_
    refine (zLet_eq (show fn6 [ρ 0 + 6] (γ 19) = (0, (-1), γ 20) from l20.symm)).trans ?_
    refine (zLet_eq (show _ = γ 20 from rfl)).trans ?_
    refine (if_neg w_5).trans ?_
    refine (zLet_eq (show fn11 [(-1)] (γ 20) = (0, 0, γ 21) from l21.symm)).trans ?_
    refine (zLet_eq (show _ = γ 21 from rfl)).trans ?_
    refine (zLet_eq c22.symm).trans ?_
    refine (zLet_eq c23.symm).trans ?_
    refine (zLet_eq c24.symm).trans ?_
    rfl
  exact zGoo_end hD
theorem vn14_11 {S : Nat → zSpc} (hS6 : ∀ x g o v gz, S 6 x g o v gz → sn6 x g o v gz) (hS8 : ∀ x g o v gz, S 8 x g o v gz → sn8 x g o v gz) (hS11 : ∀ x g o v gz, S 11 x g o v gz → sn11 x g o v gz) {a : List Int} {g : rHp} : ∀ (ρ : Nat → Int) (γ : Nat → rHp), zO 4 S a g q14_11 ρ γ → zGl (fun i vs g1 => jn14 a g i vs g1) (sn14 a g) q14_11 ρ γ := by
  intro ρ γ h
  obtain ⟨ha, hg, hr, hf, hm, hc, hl⟩ := h
  have ha : a = [ρ 0, ρ 1, ρ 2, ρ 3] := ha
  subst ha
  subst hg
  obtain ⟨-, -, -, -, r4, -⟩ := hr
  have r4 : ((-128) : Int) ≤ ρ 4 ∧ ρ 4 ≤ 127 := r4
  obtain ⟨f0, f1, -⟩ := hf
  have f0 : (0 : Int) ≤ -ρ 1 + ρ 0 + 5 := f0
  have f1 : (0 : Int) ≤ ρ 1 + -ρ 0 + (-5) := f1
  obtain ⟨w_0, w_1, w_2, w_3, w_4⟩ : (0 ≤ ρ 1 + -ρ 0 + (-2)) ∧ (0 ≤ ρ 1 + -ρ 0 + (-3)) ∧ (0 ≤ ρ 1 + -ρ 0 + (-4)) ∧ (0 ≤ ρ 1 + -ρ 0 + (-5)) ∧ (¬ (0 ≤ ρ 1 + -ρ 0 + (-6))) := ⟨by omega, by omega, by omega, by omega, by omega⟩
  obtain ⟨m0, m1, -⟩ := hm
  have m0 : γ 0 15 0 35 = ρ 0 := m0
  have m1 : γ 0 15 0 34 = ρ 1 := m1
  obtain ⟨⟨⟨-, c19⟩, c20⟩, c21⟩ := hc
  have c19 : γ 19 = rUp (γ 18) 15 0 35 (ρ 0 + 5) := c19
  have c20 : γ 20 = rUp (γ 19) 15 0 39 (ρ 14 + (10 * ρ 12 + (100 * ρ 10 + (1000 * ρ 8 + 10000 * ρ 6))) + (-533328)) := c20
  have c21 : γ 21 = rUp (γ 20) 15 0 40 0 := c21
  obtain ⟨l0, l1, l2, l3, l4, l5, l6, l7, l8, l9, l10, l11, l12, l13, l14, l15, l16, l17, l18, -⟩ := hl
  have l0 : sn6 [ρ 0, ρ 1] (γ 0) 0 (ρ 4) (γ 1) := hS6 _ _ _ _ _ l0
  have l1 : ρ 4 ≠ 45 := l1
  have l2 : sn6 [ρ 0, ρ 1] (γ 1) 0 (ρ 5) (γ 2) := hS6 _ _ _ _ _ l2
  have l3 : sn11 [ρ 5] (γ 2) 0 1 (γ 3) := hS11 _ _ _ _ _ l3
  have l4 : sn6 [ρ 0, ρ 1] (γ 3) 0 (ρ 6) (γ 4) := hS6 _ _ _ _ _ l4
  have l5 : sn6 [ρ 0 + 1, ρ 1] (γ 4) 0 (ρ 7) (γ 5) := hS6 _ _ _ _ _ l5
  have l6 : sn11 [ρ 7] (γ 5) 0 1 (γ 6) := hS11 _ _ _ _ _ l6
  have l7 : sn6 [ρ 0 + 1, ρ 1] (γ 6) 0 (ρ 8) (γ 7) := hS6 _ _ _ _ _ l7
  have l8 : sn6 [ρ 0 + 2, ρ 1] (γ 7) 0 (ρ 9) (γ 8) := hS6 _ _ _ _ _ l8
  have l9 : sn11 [ρ 9] (γ 8) 0 1 (γ 9) := hS11 _ _ _ _ _ l9
  have l10 : sn6 [ρ 0 + 2, ρ 1] (γ 9) 0 (ρ 10) (γ 10) := hS6 _ _ _ _ _ l10
  have l11 : sn6 [ρ 0 + 3, ρ 1] (γ 10) 0 (ρ 11) (γ 11) := hS6 _ _ _ _ _ l11
  have l12 : sn11 [ρ 11] (γ 11) 0 1 (γ 12) := hS11 _ _ _ _ _ l12
  have l13 : sn6 [ρ 0 + 3, ρ 1] (γ 12) 0 (ρ 12) (γ 13) := hS6 _ _ _ _ _ l13
  have l14 : sn6 [ρ 0 + 4, ρ 1] (γ 13) 0 (ρ 13) (γ 14) := hS6 _ _ _ _ _ l14
  have l15 : sn11 [ρ 13] (γ 14) 0 1 (γ 15) := hS11 _ _ _ _ _ l15
  have l16 : sn6 [ρ 0 + 4, ρ 1] (γ 15) 0 (ρ 14) (γ 16) := hS6 _ _ _ _ _ l16
  have l17 : sn6 [ρ 0 + 5, ρ 1] (γ 16) 0 (-1) (γ 17) := hS6 _ _ _ _ _ l17
  have l18 : sn11 [(-1)] (γ 17) 0 0 (γ 18) := hS11 _ _ _ _ _ l18
  have wl_0 : ρ 4 ≠ 45 := by omega
  show sn14 [ρ 0, ρ 1, ρ 2, ρ 3] (γ 0) 0 1 (γ 21)
  have hD : dn14 [] (γ 0) = .inr (0, 1, γ 21) := by
    unfold dn14
    refine (zLet_eq m0).trans ?_
    refine (zLet_eq m1).trans ?_
    refine (zLet_eq (show fn6 [ρ 0] (γ 0) = (0, ρ 4, γ 1) from l0.symm)).trans ?_
    refine (zLet_eq (show _ = γ 1 from rfl)).trans ?_
    refine (zLet_eq (show _ = ρ 4 from rfl)).trans ?_
    refine (if_pos wl_0).trans ?_
    refine (zLet_eq (show fn6 [ρ 0] (γ 1) = (0, ρ 5, γ 2) from l2.symm)).trans ?_
    refine (zLet_eq (show _ = γ 2 from rfl)).trans ?_
    refine (zLet_eq (show _ = ρ 5 from rfl)).trans ?_
    refine (zLet_eq (show fn11 [ρ 5] (γ 2) = (0, 1, γ 3) from l3.symm)).trans ?_
    refine (zLet_eq (show _ = γ 3 from rfl)).trans ?_
    refine (if_pos zQ1_).trans ?_
    refine (zLet_eq (show fn6 [ρ 0] (γ 3) = (0, ρ 6, γ 4) from l4.symm)).trans ?_
    refine (zLet_eq (show _ = γ 4 from rfl)).trans ?_
    refine (zLet_eq (show _ = ρ 6 from rfl)).trans ?_
    refine (zLet_eq (show fn6 [ρ 0 + 1] (γ 4) = (0, ρ 7, γ 5) from l5.symm)).trans ?_
    refine (zLet_eq (show _ = γ 5 from rfl)).trans ?_
    refine (if_pos w_0).trans ?_
    refine (zLet_eq (show _ = ρ 7 from rfl)).trans ?_
    refine (zLet_eq (show fn11 [ρ 7] (γ 5) = (0, 1, γ 6) from l6.symm)).trans ?_
    refine (zLet_eq (show _ = γ 6 from rfl)).trans ?_
    refine (if_pos zQ1_).trans ?_
    refine (zLet_eq (show fn6 [ρ 0 + 1] (γ 6) = (0, ρ 8, γ 7) from l7.symm)).trans ?_
    refine (zLet_eq (show _ = γ 7 from rfl)).trans ?_
    refine (zLet_eq (show _ = ρ 8 from rfl)).trans ?_
    refine (zLet_eq (show fn6 [ρ 0 + 2] (γ 7) = (0, ρ 9, γ 8) from l8.symm)).trans ?_
    refine (zLet_eq (show _ = γ 8 from rfl)).trans ?_
    refine (if_pos w_1).trans ?_
    refine (zLet_eq (show _ = ρ 9 from rfl)).trans ?_
    refine (zLet_eq (show fn11 [ρ 9] (γ 8) = (0, 1, γ 9) from l9.symm)).trans ?_
    refine (zLet_eq (show _ = γ 9 from rfl)).trans ?_
    refine (if_pos zQ1_).trans ?_
    refine (zLet_eq (show fn6 [ρ 0 + 2] (γ 9) = (0, ρ 10, γ 10) from l10.symm)).trans ?_
    refine (zLet_eq (show _ = γ 10 from rfl)).trans ?_
    refine (zLet_eq (show _ = ρ 10 from rfl)).trans ?_
    refine (zLet_eq (show fn6 [ρ 0 + 3] (γ 10) = (0, ρ 11, γ 11) from l11.symm)).trans ?_
    refine (zLet_eq (show _ = γ 11 from rfl)).trans ?_
    refine (if_pos w_2).trans ?_
    refine (zLet_eq (show _ = ρ 11 from rfl)).trans ?_
    refine (zLet_eq (show fn11 [ρ 11] (γ 11) = (0, 1, γ 12) from l12.symm)).trans ?_
    refine (zLet_eq (show _ = γ 12 from rfl)).trans ?_
    refine (if_pos zQ1_).trans ?_
    refine (zLet_eq (show fn6 [ρ 0 + 3] (γ 12) = (0, ρ 12, γ 13) from l13.symm)).trans ?_
    refine (zLet_eq (show _ = γ 13 from rfl)).trans ?_
    refine (zLet_eq (show _ = ρ 12 from rfl)).trans ?_
    refine (zLet_eq (show fn6 [ρ 0 + 4] (γ 13) = (0, ρ 13, γ 14) from l14.symm)).trans ?_
    refine (zLet_eq (show _ = γ 14 from rfl)).trans ?_
    refine (if_pos w_3).trans ?_
    refine (zLet_eq (show _ = ρ 13 from rfl)).trans ?_
    refine (zLet_eq (show fn11 [ρ 13] (γ 14) = (0, 1, γ 15) from l15.symm)).trans ?_
    refine (zLet_eq (show _ = γ 15 from rfl)).trans ?_
    refine (if_pos zQ1_).trans ?_
    refine (zLet_eq (show fn6 [ρ 0 + 4] (γ 15) = (0, ρ 14, γ 16) from l16.symm)).trans ?_
    refine (zLet_eq (show _ = γ 16 from rfl)).trans ?_
    refine (zLet_eq (show _ = ρ 14 from rfl)).trans ?_
    refine (zLet_eq (show fn6 [ρ 0 + 5] (γ 16) = (0, (-1), γ 17) from l17.symm)).trans ?_
    refine (zLet_eq (show _ = γ 17 from rfl)).trans ?_
    refine (if_neg w_4).trans ?_
    refine (zLet_eq (show fn11 [(-1)] (γ 17) = (0, 0, γ 18) from l18.symm)).trans ?_
    refine (zLet_eq (show _ = γ 18 from rfl)).trans ?_
    refine (zLet_eq c19.symm).trans ?_
    refine (zLet_eq c20.symm).trans ?_
    refine (zLet_eq c21.symm).trans ?_
    rfl
  exact zGoo_end hD
theorem vn14_12 {S : Nat → zSpc} (hS6 : ∀ x g o v gz, S 6 x g o v gz → sn6 x g o v gz) (hS8 : ∀ x g o v gz, S 8 x g o v gz → sn8 x g o v gz) (hS11 : ∀ x g o v gz, S 11 x g o v gz → sn11 x g o v gz) {a : List Int} {g : rHp} : ∀ (ρ : Nat → Int) (γ : Nat → rHp), zO 4 S a g q14_12 ρ γ → zGl (fun i vs g1 => jn14 a g i vs g1) (sn14 a g) q14_12 ρ γ := by
  intro ρ γ h
  obtain ⟨ha, hg, hr, hf, hm, hc, hl⟩ := h
  have ha : a = [ρ 0, ρ 1, ρ 2, ρ 3] := ha
  subst ha
  subst hg
  obtain ⟨-, -, -, -, r4, -⟩ := hr
  have r4 : ((-128) : Int) ≤ ρ 4 ∧ ρ 4 ≤ 127 := r4
  obtain ⟨f0, f1, -⟩ := hf
  have f0 : (0 : Int) ≤ -ρ 1 + ρ 0 + 4 := f0
  have f1 : (0 : Int) ≤ ρ 1 + -ρ 0 + (-4) := f1
  obtain ⟨w_0, w_1, w_2, w_3⟩ : (0 ≤ ρ 1 + -ρ 0 + (-2)) ∧ (0 ≤ ρ 1 + -ρ 0 + (-3)) ∧ (0 ≤ ρ 1 + -ρ 0 + (-4)) ∧ (¬ (0 ≤ ρ 1 + -ρ 0 + (-5))) := ⟨by omega, by omega, by omega, by omega⟩
  obtain ⟨m0, m1, -⟩ := hm
  have m0 : γ 0 15 0 35 = ρ 0 := m0
  have m1 : γ 0 15 0 34 = ρ 1 := m1
  obtain ⟨⟨⟨-, c16⟩, c17⟩, c18⟩ := hc
  have c16 : γ 16 = rUp (γ 15) 15 0 35 (ρ 0 + 4) := c16
  have c17 : γ 17 = rUp (γ 16) 15 0 39 (ρ 12 + (10 * ρ 10 + (100 * ρ 8 + 1000 * ρ 6)) + (-53328)) := c17
  have c18 : γ 18 = rUp (γ 17) 15 0 40 0 := c18
  obtain ⟨l0, l1, l2, l3, l4, l5, l6, l7, l8, l9, l10, l11, l12, l13, l14, l15, -⟩ := hl
  have l0 : sn6 [ρ 0, ρ 1] (γ 0) 0 (ρ 4) (γ 1) := hS6 _ _ _ _ _ l0
  have l1 : ρ 4 ≠ 45 := l1
  have l2 : sn6 [ρ 0, ρ 1] (γ 1) 0 (ρ 5) (γ 2) := hS6 _ _ _ _ _ l2
  have l3 : sn11 [ρ 5] (γ 2) 0 1 (γ 3) := hS11 _ _ _ _ _ l3
  have l4 : sn6 [ρ 0, ρ 1] (γ 3) 0 (ρ 6) (γ 4) := hS6 _ _ _ _ _ l4
  have l5 : sn6 [ρ 0 + 1, ρ 1] (γ 4) 0 (ρ 7) (γ 5) := hS6 _ _ _ _ _ l5
  have l6 : sn11 [ρ 7] (γ 5) 0 1 (γ 6) := hS11 _ _ _ _ _ l6
  have l7 : sn6 [ρ 0 + 1, ρ 1] (γ 6) 0 (ρ 8) (γ 7) := hS6 _ _ _ _ _ l7
  have l8 : sn6 [ρ 0 + 2, ρ 1] (γ 7) 0 (ρ 9) (γ 8) := hS6 _ _ _ _ _ l8
  have l9 : sn11 [ρ 9] (γ 8) 0 1 (γ 9) := hS11 _ _ _ _ _ l9
  have l10 : sn6 [ρ 0 + 2, ρ 1] (γ 9) 0 (ρ 10) (γ 10) := hS6 _ _ _ _ _ l10
  have l11 : sn6 [ρ 0 + 3, ρ 1] (γ 10) 0 (ρ 11) (γ 11) := hS6 _ _ _ _ _ l11
  have l12 : sn11 [ρ 11] (γ 11) 0 1 (γ 12) := hS11 _ _ _ _ _ l12
  have l13 : sn6 [ρ 0 + 3, ρ 1] (γ 12) 0 (ρ 12) (γ 13) := hS6 _ _ _ _ _ l13
  have l14 : sn6 [ρ 0 + 4, ρ 1] (γ 13) 0 (-1) (γ 14) := hS6 _ _ _ _ _ l14
  have l15 : sn11 [(-1)] (γ 14) 0 0 (γ 15) := hS11 _ _ _ _ _ l15
  have wl_0 : ρ 4 ≠ 45 := by omega
  show sn14 [ρ 0, ρ 1, ρ 2, ρ 3] (γ 0) 0 1 (γ 18)
  have hD : dn14 [] (γ 0) = .inr (0, 1, γ 18) := by
    unfold dn14
    refine (zLet_eq m0).trans ?_
    refine (zLet_eq m1).trans ?_
    refine (zLet_eq (show fn6 [ρ 0] (γ 0) = (0, ρ 4, γ 1) from l0.symm)).trans ?_
    refine (zLet_eq (show _ = γ 1 from rfl)).trans ?_
    refine (zLet_eq (show _ = ρ 4 from rfl)).trans ?_
    refine (if_pos wl_0).trans ?_
    refine (zLet_eq (show fn6 [ρ 0] (γ 1) = (0, ρ 5, γ 2) from l2.symm)).trans ?_
    refine (zLet_eq (show _ = γ 2 from rfl)).trans ?_
    refine (zLet_eq (show _ = ρ 5 from rfl)).trans ?_
    refine (zLet_eq (show fn11 [ρ 5] (γ 2) = (0, 1, γ 3) from l3.symm)).trans ?_
    refine (zLet_eq (show _ = γ 3 from rfl)).trans ?_
    refine (if_pos zQ1_).trans ?_
    refine (zLet_eq (show fn6 [ρ 0] (γ 3) = (0, ρ 6, γ 4) from l4.symm)).trans ?_
    refine (zLet_eq (show _ = γ 4 from rfl)).trans ?_
    refine (zLet_eq (show _ = ρ 6 from rfl)).trans ?_
    refine (zLet_eq (show fn6 [ρ 0 + 1] (γ 4) = (0, ρ 7, γ 5) from l5.symm)).trans ?_
    refine (zLet_eq (show _ = γ 5 from rfl)).trans ?_
    refine (if_pos w_0).trans ?_
    refine (zLet_eq (show _ = ρ 7 from rfl)).trans ?_
    refine (zLet_eq (show fn11 [ρ 7] (γ 5) = (0, 1, γ 6) from l6.symm)).trans ?_
    refine (zLet_eq (show _ = γ 6 from rfl)).trans ?_
    refine (if_pos zQ1_).trans ?_
    refine (zLet_eq (show fn6 [ρ 0 + 1] (γ 6) = (0, ρ 8, γ 7) from l7.symm)).trans ?_
    refine (zLet_eq (show _ = γ 7 from rfl)).trans ?_
    refine (zLet_eq (show _ = ρ 8 from rfl)).trans ?_
    refine (zLet_eq (show fn6 [ρ 0 + 2] (γ 7) = (0, ρ 9, γ 8) from l8.symm)).trans ?_
    refine (zLet_eq (show _ = γ 8 from rfl)).trans ?_
    refine (if_pos w_1).trans ?_
    refine (zLet_eq (show _ = ρ 9 from rfl)).trans ?_
    refine (zLet_eq (show fn11 [ρ 9] (γ 8) = (0, 1, γ 9) from l9.symm)).trans ?_
    refine (zLet_eq (show _ = γ 9 from rfl)).trans ?_
    refine (if_pos zQ1_).trans ?_
    refine (zLet_eq (show fn6 [ρ 0 + 2] (γ 9) = (0, ρ 10, γ 10) from l10.symm)).trans ?_
    refine (zLet_eq (show _ = γ 10 from rfl)).trans ?_
    refine (zLet_eq (show _ = ρ 10 from rfl)).trans ?_
    refine (zLet_eq (show fn6 [ρ 0 + 3] (γ 10) = (0, ρ 11, γ 11) from l11.symm)).trans ?_
    refine (zLet_eq (show _ = γ 11 from rfl)).trans ?_
    refine (if_pos w_2).trans ?_
    refine (zLet_eq (show _ = ρ 11 from rfl)).trans ?_
    refine (zLet_eq (show fn11 [ρ 11] (γ 11) = (0, 1, γ 12) from l12.symm)).trans ?_
    refine (zLet_eq (show _ = γ 12 from rfl)).trans ?_
    refine (if_pos zQ1_).trans ?_
    refine (zLet_eq (show fn6 [ρ 0 + 3] (γ 12) = (0, ρ 12, γ 13) from l13.symm)).trans ?_
    refine (zLet_eq (show _ = γ 13 from rfl)).trans ?_
    refine (zLet_eq (show _ = ρ 12 from rfl)).trans ?_
    refine (zLet_eq (show fn6 [ρ 0 + 4] (γ 13) = (0, (-1), γ 14) from l14.symm)).trans ?_
    refine (zLet_eq (show _ = γ 14 from rfl)).trans ?_
    refine (if_neg w_3).trans ?_
    refine (zLet_eq (show fn11 [(-1)] (γ 14) = (0, 0, γ 15) from l15.symm)).trans ?_
    refine (zLet_eq (show _ = γ 15 from rfl)).trans ?_
    refine (zLet_eq c16.symm).trans ?_
    refine (zLet_eq c17.symm).trans ?_
    refine (zLet_eq c18.symm).trans ?_
    rfl
  exact zGoo_end hD
theorem vn14_13 {S : Nat → zSpc} (hS6 : ∀ x g o v gz, S 6 x g o v gz → sn6 x g o v gz) (hS8 : ∀ x g o v gz, S 8 x g o v gz → sn8 x g o v gz) (hS11 : ∀ x g o v gz, S 11 x g o v gz → sn11 x g o v gz) {a : List Int} {g : rHp} : ∀ (ρ : Nat → Int) (γ : Nat → rHp), zO 4 S a g q14_13 ρ γ → zGl (fun i vs g1 => jn14 a g i vs g1) (sn14 a g) q14_13 ρ γ := by
  intro ρ γ h
  obtain ⟨ha, hg, hr, hf, hm, hc, hl⟩ := h
  have ha : a = [ρ 0, ρ 1, ρ 2, ρ 3] := ha
  subst ha
  subst hg
  obtain ⟨-, -, -, -, r4, -⟩ := hr
  have r4 : ((-128) : Int) ≤ ρ 4 ∧ ρ 4 ≤ 127 := r4
  obtain ⟨f0, f1, -⟩ := hf
  have f0 : (0 : Int) ≤ -ρ 1 + ρ 0 + 3 := f0
  have f1 : (0 : Int) ≤ ρ 1 + -ρ 0 + (-3) := f1
  obtain ⟨w_0, w_1, w_2⟩ : (0 ≤ ρ 1 + -ρ 0 + (-2)) ∧ (0 ≤ ρ 1 + -ρ 0 + (-3)) ∧ (¬ (0 ≤ ρ 1 + -ρ 0 + (-4))) := ⟨by omega, by omega, by omega⟩
  obtain ⟨m0, m1, -⟩ := hm
  have m0 : γ 0 15 0 35 = ρ 0 := m0
  have m1 : γ 0 15 0 34 = ρ 1 := m1
  obtain ⟨⟨⟨-, c13⟩, c14⟩, c15⟩ := hc
  have c13 : γ 13 = rUp (γ 12) 15 0 35 (ρ 0 + 3) := c13
  have c14 : γ 14 = rUp (γ 13) 15 0 39 (ρ 10 + (10 * ρ 8 + 100 * ρ 6) + (-5328)) := c14
  have c15 : γ 15 = rUp (γ 14) 15 0 40 0 := c15
  obtain ⟨l0, l1, l2, l3, l4, l5, l6, l7, l8, l9, l10, l11, l12, -⟩ := hl
  have l0 : sn6 [ρ 0, ρ 1] (γ 0) 0 (ρ 4) (γ 1) := hS6 _ _ _ _ _ l0
  have l1 : ρ 4 ≠ 45 := l1
  have l2 : sn6 [ρ 0, ρ 1] (γ 1) 0 (ρ 5) (γ 2) := hS6 _ _ _ _ _ l2
  have l3 : sn11 [ρ 5] (γ 2) 0 1 (γ 3) := hS11 _ _ _ _ _ l3
  have l4 : sn6 [ρ 0, ρ 1] (γ 3) 0 (ρ 6) (γ 4) := hS6 _ _ _ _ _ l4
  have l5 : sn6 [ρ 0 + 1, ρ 1] (γ 4) 0 (ρ 7) (γ 5) := hS6 _ _ _ _ _ l5
  have l6 : sn11 [ρ 7] (γ 5) 0 1 (γ 6) := hS11 _ _ _ _ _ l6
  have l7 : sn6 [ρ 0 + 1, ρ 1] (γ 6) 0 (ρ 8) (γ 7) := hS6 _ _ _ _ _ l7
  have l8 : sn6 [ρ 0 + 2, ρ 1] (γ 7) 0 (ρ 9) (γ 8) := hS6 _ _ _ _ _ l8
  have l9 : sn11 [ρ 9] (γ 8) 0 1 (γ 9) := hS11 _ _ _ _ _ l9
  have l10 : sn6 [ρ 0 + 2, ρ 1] (γ 9) 0 (ρ 10) (γ 10) := hS6 _ _ _ _ _ l10
  have l11 : sn6 [ρ 0 + 3, ρ 1] (γ 10) 0 (-1) (γ 11) := hS6 _ _ _ _ _ l11
  have l12 : sn11 [(-1)] (γ 11) 0 0 (γ 12) := hS11 _ _ _ _ _ l12
  have wl_0 : ρ 4 ≠ 45 := by omega
  show sn14 [ρ 0, ρ 1, ρ 2, ρ 3] (γ 0) 0 1 (γ 15)
  have hD : dn14 [] (γ 0) = .inr (0, 1, γ 15) := by
    unfold dn14
    refine (zLet_eq m0).trans ?_
    refine (zLet_eq m1).trans ?_
    refine (zLet_eq (show fn6 [ρ 0] (γ 0) = (0, ρ 4, γ 1) from l0.symm)).trans ?_
    refine (zLet_eq (show _ = γ 1 from rfl)).trans ?_
    refine (zLet_eq (show _ = ρ 4 from rfl)).trans ?_
    refine (if_pos wl_0).trans ?_
    refine (zLet_eq (show fn6 [ρ 0] (γ 1) = (0, ρ 5, γ 2) from l2.symm)).trans ?_
    refine (zLet_eq (show _ = γ 2 from rfl)).trans ?_
    refine (zLet_eq (show _ = ρ 5 from rfl)).trans ?_
    refine (zLet_eq (show fn11 [ρ 5] (γ 2) = (0, 1, γ 3) from l3.symm)).trans ?_
    refine (zLet_eq (show _ = γ 3 from rfl)).trans ?_
    refine (if_pos zQ1_).trans ?_
    refine (zLet_eq (show fn6 [ρ 0] (γ 3) = (0, ρ 6, γ 4) from l4.symm)).trans ?_
    refine (zLet_eq (show _ = γ 4 from rfl)).trans ?_
    refine (zLet_eq (show _ = ρ 6 from rfl)).trans ?_
    refine (zLet_eq (show fn6 [ρ 0 + 1] (γ 4) = (0, ρ 7, γ 5) from l5.symm)).trans ?_
    refine (zLet_eq (show _ = γ 5 from rfl)).trans ?_
    refine (if_pos w_0).trans ?_
    refine (zLet_eq (show _ = ρ 7 from rfl)).trans ?_
    refine (zLet_eq (show fn11 [ρ 7] (γ 5) = (0, 1, γ 6) from l6.symm)).trans ?_
    refine (zLet_eq (show _ = γ 6 from rfl)).trans ?_
    refine (if_pos zQ1_).trans ?_
    refine (zLet_eq (show fn6 [ρ 0 + 1] (γ 6) = (0, ρ 8, γ 7) from l7.symm)).trans ?_
    refine (zLet_eq (show _ = γ 7 from rfl)).trans ?_
    refine (zLet_eq (show _ = ρ 8 from rfl)).trans ?_
    refine (zLet_eq (show fn6 [ρ 0 + 2] (γ 7) = (0, ρ 9, γ 8) from l8.symm)).trans ?_
    refine (zLet_eq (show _ = γ 8 from rfl)).trans ?_
    refine (if_pos w_1).trans ?_
    refine (zLet_eq (show _ = ρ 9 from rfl)).trans ?_
    refine (zLet_eq (show fn11 [ρ 9] (γ 8) = (0, 1, γ 9) from l9.symm)).trans ?_
    refine (zLet_eq (show _ = γ 9 from rfl)).trans ?_
    refine (if_pos zQ1_).trans ?_
    refine (zLet_eq (show fn6 [ρ 0 + 2] (γ 9) = (0, ρ 10, γ 10) from l10.symm)).trans ?_
    refine (zLet_eq (show _ = γ 10 from rfl)).trans ?_
    refine (zLet_eq (show _ = ρ 10 from rfl)).trans ?_
    refine (zLet_eq (show fn6 [ρ 0 + 3] (γ 10) = (0, (-1), γ 11) from l11.symm)).trans ?_
    refine (zLet_eq (show _ = γ 11 from rfl)).trans ?_
    refine (if_neg w_2).trans ?_
    refine (zLet_eq (show fn11 [(-1)] (γ 11) = (0, 0, γ 12) from l12.symm)).trans ?_
    refine (zLet_eq (show _ = γ 12 from rfl)).trans ?_
    refine (zLet_eq c13.symm).trans ?_
    refine (zLet_eq c14.symm).trans ?_
    refine (zLet_eq c15.symm).trans ?_
    rfl
  exact zGoo_end hD
theorem vn14_14 {S : Nat → zSpc} (hS6 : ∀ x g o v gz, S 6 x g o v gz → sn6 x g o v gz) (hS8 : ∀ x g o v gz, S 8 x g o v gz → sn8 x g o v gz) (hS11 : ∀ x g o v gz, S 11 x g o v gz → sn11 x g o v gz) {a : List Int} {g : rHp} : ∀ (ρ : Nat → Int) (γ : Nat → rHp), zO 4 S a g q14_14 ρ γ → zGl (fun i vs g1 => jn14 a g i vs g1) (sn14 a g) q14_14 ρ γ := by
  intro ρ γ h
  obtain ⟨ha, hg, hr, hf, hm, hc, hl⟩ := h
  have ha : a = [ρ 0, ρ 1, ρ 2, ρ 3] := ha
  subst ha
  subst hg
  obtain ⟨-, -, -, -, r4, -⟩ := hr
  have r4 : ((-128) : Int) ≤ ρ 4 ∧ ρ 4 ≤ 127 := r4
  obtain ⟨f0, f1, -⟩ := hf
  have f0 : (0 : Int) ≤ -ρ 1 + ρ 0 + 2 := f0
  have f1 : (0 : Int) ≤ ρ 1 + -ρ 0 + (-2) := f1
  obtain ⟨w_0, w_1⟩ : (0 ≤ ρ 1 + -ρ 0 + (-2)) ∧ (¬ (0 ≤ ρ 1 + -ρ 0 + (-3))) := ⟨by omega, by omega⟩
  obtain ⟨m0, m1, -⟩ := hm
  have m0 : γ 0 15 0 35 = ρ 0 := m0
  have m1 : γ 0 15 0 34 = ρ 1 := m1
  obtain ⟨⟨⟨-, c10⟩, c11⟩, c12⟩ := hc
  have c10 : γ 10 = rUp (γ 9) 15 0 35 (ρ 0 + 2) := c10
  have c11 : γ 11 = rUp (γ 10) 15 0 39 (ρ 8 + 10 * ρ 6 + (-528)) := c11
  have c12 : γ 12 = rUp (γ 11) 15 0 40 0 := c12
  obtain ⟨l0, l1, l2, l3, l4, l5, l6, l7, l8, l9, -⟩ := hl
  have l0 : sn6 [ρ 0, ρ 1] (γ 0) 0 (ρ 4) (γ 1) := hS6 _ _ _ _ _ l0
  have l1 : ρ 4 ≠ 45 := l1
  have l2 : sn6 [ρ 0, ρ 1] (γ 1) 0 (ρ 5) (γ 2) := hS6 _ _ _ _ _ l2
  have l3 : sn11 [ρ 5] (γ 2) 0 1 (γ 3) := hS11 _ _ _ _ _ l3
  have l4 : sn6 [ρ 0, ρ 1] (γ 3) 0 (ρ 6) (γ 4) := hS6 _ _ _ _ _ l4
  have l5 : sn6 [ρ 0 + 1, ρ 1] (γ 4) 0 (ρ 7) (γ 5) := hS6 _ _ _ _ _ l5
  have l6 : sn11 [ρ 7] (γ 5) 0 1 (γ 6) := hS11 _ _ _ _ _ l6
  have l7 : sn6 [ρ 0 + 1, ρ 1] (γ 6) 0 (ρ 8) (γ 7) := hS6 _ _ _ _ _ l7
  have l8 : sn6 [ρ 0 + 2, ρ 1] (γ 7) 0 (-1) (γ 8) := hS6 _ _ _ _ _ l8
  have l9 : sn11 [(-1)] (γ 8) 0 0 (γ 9) := hS11 _ _ _ _ _ l9
  have wl_0 : ρ 4 ≠ 45 := by omega
  show sn14 [ρ 0, ρ 1, ρ 2, ρ 3] (γ 0) 0 1 (γ 12)
  have hD : dn14 [] (γ 0) = .inr (0, 1, γ 12) := by
    unfold dn14
    refine (zLet_eq m0).trans ?_
    refine (zLet_eq m1).trans ?_
    refine (zLet_eq (show fn6 [ρ 0] (γ 0) = (0, ρ 4, γ 1) from l0.symm)).trans ?_
    refine (zLet_eq (show _ = γ 1 from rfl)).trans ?_
    refine (zLet_eq (show _ = ρ 4 from rfl)).trans ?_
    refine (if_pos wl_0).trans ?_
    refine (zLet_eq (show fn6 [ρ 0] (γ 1) = (0, ρ 5, γ 2) from l2.symm)).trans ?_
    refine (zLet_eq (show _ = γ 2 from rfl)).trans ?_
    refine (zLet_eq (show _ = ρ 5 from rfl)).trans ?_
    refine (zLet_eq (show fn11 [ρ 5] (γ 2) = (0, 1, γ 3) from l3.symm)).trans ?_
    refine (zLet_eq (show _ = γ 3 from rfl)).trans ?_
    refine (if_pos zQ1_).trans ?_
    refine (zLet_eq (show fn6 [ρ 0] (γ 3) = (0, ρ 6, γ 4) from l4.symm)).trans ?_
    refine (zLet_eq (show _ = γ 4 from rfl)).trans ?_
    refine (zLet_eq (show _ = ρ 6 from rfl)).trans ?_
    refine (zLet_eq (show fn6 [ρ 0 + 1] (γ 4) = (0, ρ 7, γ 5) from l5.symm)).trans ?_
    refine (zLet_eq (show _ = γ 5 from rfl)).trans ?_
    refine (if_pos w_0).trans ?_
    refine (zLet_eq (show _ = ρ 7 from rfl)).trans ?_
    refine (zLet_eq (show fn11 [ρ 7] (γ 5) = (0, 1, γ 6) from l6.symm)).trans ?_
    refine (zLet_eq (show _ = γ 6 from rfl)).trans ?_
    refine (if_pos zQ1_).trans ?_
    refine (zLet_eq (show fn6 [ρ 0 + 1] (γ 6) = (0, ρ 8, γ 7) from l7.symm)).trans ?_
    refine (zLet_eq (show _ = γ 7 from rfl)).trans ?_
    refine (zLet_eq (show _ = ρ 8 from rfl)).trans ?_
    refine (zLet_eq (show fn6 [ρ 0 + 2] (γ 7) = (0, (-1), γ 8) from l8.symm)).trans ?_
    refine (zLet_eq (show _ = γ 8 from rfl)).trans ?_
    refine (if_neg w_1).trans ?_
    refine (zLet_eq (show fn11 [(-1)] (γ 8) = (0, 0, γ 9) from l9.symm)).trans ?_
    refine (zLet_eq (show _ = γ 9 from rfl)).trans ?_
    refine (zLet_eq c10.symm).trans ?_
    refine (zLet_eq c11.symm).trans ?_
    refine (zLet_eq c12.symm).trans ?_
    rfl
  exact zGoo_end hD
theorem vn14_15 {S : Nat → zSpc} (hS6 : ∀ x g o v gz, S 6 x g o v gz → sn6 x g o v gz) (hS8 : ∀ x g o v gz, S 8 x g o v gz → sn8 x g o v gz) (hS11 : ∀ x g o v gz, S 11 x g o v gz → sn11 x g o v gz) {a : List Int} {g : rHp} : ∀ (ρ : Nat → Int) (γ : Nat → rHp), zO 4 S a g q14_15 ρ γ → zGl (fun i vs g1 => jn14 a g i vs g1) (sn14 a g) q14_15 ρ γ := by
  intro ρ γ h
  obtain ⟨ha, hg, hr, hf, hm, hc, hl⟩ := h
  have ha : a = [ρ 0, ρ 1, ρ 2, ρ 3] := ha
  subst ha
  subst hg
  obtain ⟨-, -, -, -, r4, -⟩ := hr
  have r4 : ((-128) : Int) ≤ ρ 4 ∧ ρ 4 ≤ 127 := r4
  obtain ⟨f0, -⟩ := hf
  have f0 : (0 : Int) ≤ -ρ 1 + ρ 0 + 1 := f0
  have w_0 : ¬ (0 ≤ ρ 1 + -ρ 0 + (-2)) := by omega
  obtain ⟨m0, m1, -⟩ := hm
  have m0 : γ 0 15 0 35 = ρ 0 := m0
  have m1 : γ 0 15 0 34 = ρ 1 := m1
  obtain ⟨⟨⟨-, c7⟩, c8⟩, c9⟩ := hc
  have c7 : γ 7 = rUp (γ 6) 15 0 35 (ρ 0 + 1) := c7
  have c8 : γ 8 = rUp (γ 7) 15 0 39 (ρ 6 + (-48)) := c8
  have c9 : γ 9 = rUp (γ 8) 15 0 40 0 := c9
  obtain ⟨l0, l1, l2, l3, l4, l5, l6, -⟩ := hl
  have l0 : sn6 [ρ 0, ρ 1] (γ 0) 0 (ρ 4) (γ 1) := hS6 _ _ _ _ _ l0
  have l1 : ρ 4 ≠ 45 := l1
  have l2 : sn6 [ρ 0, ρ 1] (γ 1) 0 (ρ 5) (γ 2) := hS6 _ _ _ _ _ l2
  have l3 : sn11 [ρ 5] (γ 2) 0 1 (γ 3) := hS11 _ _ _ _ _ l3
  have l4 : sn6 [ρ 0, ρ 1] (γ 3) 0 (ρ 6) (γ 4) := hS6 _ _ _ _ _ l4
  have l5 : sn6 [ρ 0 + 1, ρ 1] (γ 4) 0 (-1) (γ 5) := hS6 _ _ _ _ _ l5
  have l6 : sn11 [(-1)] (γ 5) 0 0 (γ 6) := hS11 _ _ _ _ _ l6
  have wl_0 : ρ 4 ≠ 45 := by omega
  show sn14 [ρ 0, ρ 1, ρ 2, ρ 3] (γ 0) 0 1 (γ 9)
  have hD : dn14 [] (γ 0) = .inr (0, 1, γ 9) := by
    unfold dn14
    refine (zLet_eq m0).trans ?_
    refine (zLet_eq m1).trans ?_
    refine (zLet_eq (show fn6 [ρ 0] (γ 0) = (0, ρ 4, γ 1) from l0.symm)).trans ?_
    refine (zLet_eq (show _ = γ 1 from rfl)).trans ?_
    refine (zLet_eq (show _ = ρ 4 from rfl)).trans ?_
    refine (if_pos wl_0).trans ?_
    refine (zLet_eq (show fn6 [ρ 0] (γ 1) = (0, ρ 5, γ 2) from l2.symm)).trans ?_
    refine (zLet_eq (show _ = γ 2 from rfl)).trans ?_
    refine (zLet_eq (show _ = ρ 5 from rfl)).trans ?_
    refine (zLet_eq (show fn11 [ρ 5] (γ 2) = (0, 1, γ 3) from l3.symm)).trans ?_
    refine (zLet_eq (show _ = γ 3 from rfl)).trans ?_
    refine (if_pos zQ1_).trans ?_
    refine (zLet_eq (show fn6 [ρ 0] (γ 3) = (0, ρ 6, γ 4) from l4.symm)).trans ?_
    refine (zLet_eq (show _ = γ 4 from rfl)).trans ?_
    refine (zLet_eq (show _ = ρ 6 from rfl)).trans ?_
    refine (zLet_eq (show fn6 [ρ 0 + 1] (γ 4) = (0, (-1), γ 5) from l5.symm)).trans ?_
    refine (zLet_eq (show _ = γ 5 from rfl)).trans ?_
    refine (if_neg w_0).trans ?_
    refine (zLet_eq (show fn11 [(-1)] (γ 5) = (0, 0, γ 6) from l6.symm)).trans ?_
    refine (zLet_eq (show _ = γ 6 from rfl)).trans ?_
    refine (zLet_eq c7.symm).trans ?_
    refine (zLet_eq c8.symm).trans ?_
    refine (zLet_eq c9.symm).trans ?_
    rfl
  exact zGoo_end hD
theorem vn14_16 {S : Nat → zSpc} (hS6 : ∀ x g o v gz, S 6 x g o v gz → sn6 x g o v gz) (hS8 : ∀ x g o v gz, S 8 x g o v gz → sn8 x g o v gz) (hS11 : ∀ x g o v gz, S 11 x g o v gz → sn11 x g o v gz) {a : List Int} {g : rHp} : ∀ (ρ : Nat → Int) (γ : Nat → rHp), zO 4 S a g q14_16 ρ γ → zGl (fun i vs g1 => jn14 a g i vs g1) (sn14 a g) q14_16 ρ γ := by
  intro ρ γ h
  obtain ⟨ha, hg, hr, hf, hm, hc, hl⟩ := h
  have ha : a = [ρ 0, ρ 1, ρ 2, ρ 3] := ha
  subst ha
  subst hg
  obtain ⟨-, -, -, -, r4, -⟩ := hr
  have r4 : (45 : Int) ≤ ρ 4 ∧ ρ 4 ≤ 45 := r4
  obtain ⟨-, -, f2, -⟩ := hf
  have f2 : (0 : Int) ≤ ρ 1 + -ρ 0 + (-2) := f2
  obtain ⟨w_0, w_1⟩ : (¬ (ρ 4 ≠ 45)) ∧ (0 ≤ ρ 1 + -ρ 0 + (-2)) := ⟨by omega, by omega⟩
  obtain ⟨m0, m1, -⟩ := hm
  have m0 : γ 0 15 0 35 = ρ 0 := m0
  have m1 : γ 0 15 0 34 = ρ 1 := m1
  obtain ⟨l0, l1, l2, l3, -⟩ := hl
  have l0 : sn6 [ρ 0, ρ 1] (γ 0) 0 (ρ 4) (γ 1) := hS6 _ _ _ _ _ l0
  have l1 : sn6 [ρ 0 + 1, ρ 1] (γ 1) 0 (ρ 5) (γ 2) := hS6 _ _ _ _ _ l1
  have l2 : sn11 [ρ 5] (γ 2) 0 0 (γ 3) := hS11 _ _ _ _ _ l2
  have l3 : sn8 [ρ 0, ρ 1, ρ 2] (γ 3) 0 0 (γ 4) := hS8 _ _ _ _ _ l3
  show sn14 [ρ 0, ρ 1, ρ 2, ρ 3] (γ 0) 0 0 (γ 4)
  have hD : dn14 [] (γ 0) = .inr (0, 0, γ 4) := by
    unfold dn14
    refine (zLet_eq m0).trans ?_
    refine (zLet_eq m1).trans ?_
    refine (zLet_eq (show fn6 [ρ 0] (γ 0) = (0, ρ 4, γ 1) from l0.symm)).trans ?_
    refine (zLet_eq (show _ = γ 1 from rfl)).trans ?_
    refine (zLet_eq (show _ = ρ 4 from rfl)).trans ?_
    refine (if_neg w_0).trans ?_
    refine (zLet_eq (show fn6 [ρ 0 + 1] (γ 1) = (0, ρ 5, γ 2) from l1.symm)).trans ?_
    refine (zLet_eq (show _ = γ 2 from rfl)).trans ?_
    refine (if_pos w_1).trans ?_
    refine (zLet_eq (show _ = ρ 5 from rfl)).trans ?_
    refine (zLet_eq (show fn11 [ρ 5] (γ 2) = (0, 0, γ 3) from l2.symm)).trans ?_
    refine (zLet_eq (show _ = γ 3 from rfl)).trans ?_
    refine (if_neg zQ0_).trans ?_
    refine (zLet_eq (show fn8 [ρ 0] (γ 3) = (0, 0, γ 4) from l3.symm)).trans ?_
    refine (zLet_eq (show _ = γ 4 from rfl)).trans ?_
    rfl
  exact zGoo_end hD
theorem vn14_17 {S : Nat → zSpc} (hS6 : ∀ x g o v gz, S 6 x g o v gz → sn6 x g o v gz) (hS8 : ∀ x g o v gz, S 8 x g o v gz → sn8 x g o v gz) (hS11 : ∀ x g o v gz, S 11 x g o v gz → sn11 x g o v gz) {a : List Int} {g : rHp} : ∀ (ρ : Nat → Int) (γ : Nat → rHp), zO 4 S a g q14_17 ρ γ → zGl (fun i vs g1 => jn14 a g i vs g1) (sn14 a g) q14_17 ρ γ := by
  intro ρ γ h
  obtain ⟨ha, hg, hr, hf, hm, hc, hl⟩ := h
  have ha : a = [ρ 0, ρ 1, ρ 2, ρ 3] := ha
  subst ha
  subst hg
  obtain ⟨-, -, -, -, r4, -⟩ := hr
  have r4 : (45 : Int) ≤ ρ 4 ∧ ρ 4 ≤ 45 := r4
  obtain ⟨f0, -⟩ := hf
  have f0 : (0 : Int) ≤ ρ 1 + -ρ 0 + (-3) := f0
  obtain ⟨w_0, w_1, w_2⟩ : (¬ (ρ 4 ≠ 45)) ∧ (0 ≤ ρ 1 + -ρ 0 + (-2)) ∧ (0 ≤ ρ 1 + -ρ 0 + (-3)) := ⟨by omega, by omega, by omega⟩
  obtain ⟨m0, m1, -⟩ := hm
  have m0 : γ 0 15 0 35 = ρ 0 := m0
  have m1 : γ 0 15 0 34 = ρ 1 := m1
  obtain ⟨⟨⟨-, c7⟩, c8⟩, c9⟩ := hc
  have c7 : γ 7 = rUp (γ 6) 15 0 35 (ρ 0 + 2) := c7
  have c8 : γ 8 = rUp (γ 7) 15 0 39 (ρ 8) := c8
  have c9 : γ 9 = rUp (γ 8) 15 0 40 0 := c9
  obtain ⟨l0, l1, l2, l3, l4, l5, l6, -⟩ := hl
  have l0 : sn6 [ρ 0, ρ 1] (γ 0) 0 (ρ 4) (γ 1) := hS6 _ _ _ _ _ l0
  have l1 : sn6 [ρ 0 + 1, ρ 1] (γ 1) 0 (ρ 5) (γ 2) := hS6 _ _ _ _ _ l1
  have l2 : sn11 [ρ 5] (γ 2) 0 1 (γ 3) := hS11 _ _ _ _ _ l2
  have l3 : sn6 [ρ 0 + 1, ρ 1] (γ 3) 0 (ρ 6) (γ 4) := hS6 _ _ _ _ _ l3
  have l4 : sn6 [ρ 0 + 2, ρ 1] (γ 4) 0 (ρ 7) (γ 5) := hS6 _ _ _ _ _ l4
  have l5 : sn11 [ρ 7] (γ 5) 0 0 (γ 6) := hS11 _ _ _ _ _ l5
  have l6 : zOpP (.lneg) (γ 0) (γ 1) [ρ 6 + (-48)] (ρ 8) := l6
  show sn14 [ρ 0, ρ 1, ρ 2, ρ 3] (γ 0) 0 1 (γ 9)
  have hD : dn14 [] (γ 0) = .inr (0, 1, γ 9) := by
    unfold dn14
    refine (zLet_eq m0).trans ?_
    refine (zLet_eq m1).trans ?_
    refine (zLet_eq (show fn6 [ρ 0] (γ 0) = (0, ρ 4, γ 1) from l0.symm)).trans ?_
    refine (zLet_eq (show _ = γ 1 from rfl)).trans ?_
    refine (zLet_eq (show _ = ρ 4 from rfl)).trans ?_
    refine (if_neg w_0).trans ?_
    refine (zLet_eq (show fn6 [ρ 0 + 1] (γ 1) = (0, ρ 5, γ 2) from l1.symm)).trans ?_
    refine (zLet_eq (show _ = γ 2 from rfl)).trans ?_
    refine (if_pos w_1).trans ?_
    refine (zLet_eq (show _ = ρ 5 from rfl)).trans ?_
    refine (zLet_eq (show fn11 [ρ 5] (γ 2) = (0, 1, γ 3) from l2.symm)).trans ?_
    refine (zLet_eq (show _ = γ 3 from rfl)).trans ?_
    refine (if_pos zQ1_).trans ?_
    refine (zLet_eq (show fn6 [ρ 0 + 1] (γ 3) = (0, ρ 6, γ 4) from l3.symm)).trans ?_
    refine (zLet_eq (show _ = γ 4 from rfl)).trans ?_
    refine (zLet_eq (show _ = ρ 6 from rfl)).trans ?_
    refine (zLet_eq (show fn6 [ρ 0 + 2] (γ 4) = (0, ρ 7, γ 5) from l4.symm)).trans ?_
    refine (zLet_eq (show _ = γ 5 from rfl)).trans ?_
    refine (if_pos w_2).trans ?_
    refine (zLet_eq (show _ = ρ 7 from rfl)).trans ?_
    refine (zLet_eq (show fn11 [ρ 7] (γ 5) = (0, 0, γ 6) from l5.symm)).trans ?_
    refine (zLet_eq (show _ = γ 6 from rfl)).trans ?_
    refine (if_neg zQ0_).trans ?_
    refine (zLet_eq c7.symm).trans ?_
    refine (zLet_eq (zF1_ok l6)).trans ?_
    refine (zLet_eq c8.symm).trans ?_
    refine (zLet_eq c9.symm).trans ?_
    rfl
  exact zGoo_end hD
theorem vn14_18 {S : Nat → zSpc} (hS6 : ∀ x g o v gz, S 6 x g o v gz → sn6 x g o v gz) (hS8 : ∀ x g o v gz, S 8 x g o v gz → sn8 x g o v gz) (hS11 : ∀ x g o v gz, S 11 x g o v gz → sn11 x g o v gz) {a : List Int} {g : rHp} : ∀ (ρ : Nat → Int) (γ : Nat → rHp), zO 4 S a g q14_18 ρ γ → zGl (fun i vs g1 => jn14 a g i vs g1) (sn14 a g) q14_18 ρ γ := by
  intro ρ γ h
  obtain ⟨ha, hg, hr, hf, hm, hc, hl⟩ := h
  have ha : a = [ρ 0, ρ 1, ρ 2, ρ 3] := ha
  subst ha
  subst hg
  obtain ⟨-, -, -, -, r4, -⟩ := hr
  have r4 : (45 : Int) ≤ ρ 4 ∧ ρ 4 ≤ 45 := r4
  obtain ⟨f0, -⟩ := hf
  have f0 : (0 : Int) ≤ ρ 1 + -ρ 0 + (-4) := f0
  obtain ⟨w_0, w_1, w_2, w_3⟩ : (¬ (ρ 4 ≠ 45)) ∧ (0 ≤ ρ 1 + -ρ 0 + (-2)) ∧ (0 ≤ ρ 1 + -ρ 0 + (-3)) ∧ (0 ≤ ρ 1 + -ρ 0 + (-4)) := ⟨by omega, by omega, by omega, by omega⟩
  obtain ⟨m0, m1, -⟩ := hm
  have m0 : γ 0 15 0 35 = ρ 0 := m0
  have m1 : γ 0 15 0 34 = ρ 1 := m1
  obtain ⟨⟨⟨-, c10⟩, c11⟩, c12⟩ := hc
  have c10 : γ 10 = rUp (γ 9) 15 0 35 (ρ 0 + 3) := c10
  have c11 : γ 11 = rUp (γ 10) 15 0 39 (ρ 10) := c11
  have c12 : γ 12 = rUp (γ 11) 15 0 40 0 := c12
  obtain ⟨l0, l1, l2, l3, l4, l5, l6, l7, l8, l9, -⟩ := hl
  have l0 : sn6 [ρ 0, ρ 1] (γ 0) 0 (ρ 4) (γ 1) := hS6 _ _ _ _ _ l0
  have l1 : sn6 [ρ 0 + 1, ρ 1] (γ 1) 0 (ρ 5) (γ 2) := hS6 _ _ _ _ _ l1
  have l2 : sn11 [ρ 5] (γ 2) 0 1 (γ 3) := hS11 _ _ _ _ _ l2
  have l3 : sn6 [ρ 0 + 1, ρ 1] (γ 3) 0 (ρ 6) (γ 4) := hS6 _ _ _ _ _ l3
  have l4 : sn6 [ρ 0 + 2, ρ 1] (γ 4) 0 (ρ 7) (γ 5) := hS6 _ _ _ _ _ l4
  have l5 : sn11 [ρ 7] (γ 5) 0 1 (γ 6) := hS11 _ _ _ _ _ l5
  have l6 : sn6 [ρ 0 + 2, ρ 1] (γ 6) 0 (ρ 8) (γ 7) := hS6 _ _ _ _ _ l6
  have l7 : sn6 [ρ 0 + 3, ρ 1] (γ 7) 0 (ρ 9) (γ 8) := hS6 _ _ _ _ _ l7
  have l8 : sn11 [ρ 9] (γ 8) 0 0 (γ 9) := hS11 _ _ _ _ _ l8
  have l9 : zOpP (.lneg) (γ 0) (γ 1) [ρ 8 + 10 * ρ 6 + (-528)] (ρ 10) := l9
  show sn14 [ρ 0, ρ 1, ρ 2, ρ 3] (γ 0) 0 1 (γ 12)
  have hD : dn14 [] (γ 0) = .inr (0, 1, γ 12) := by
    unfold dn14
    refine (zLet_eq m0).trans ?_
    refine (zLet_eq m1).trans ?_
    refine (zLet_eq (show fn6 [ρ 0] (γ 0) = (0, ρ 4, γ 1) from l0.symm)).trans ?_
    refine (zLet_eq (show _ = γ 1 from rfl)).trans ?_
    refine (zLet_eq (show _ = ρ 4 from rfl)).trans ?_
    refine (if_neg w_0).trans ?_
    refine (zLet_eq (show fn6 [ρ 0 + 1] (γ 1) = (0, ρ 5, γ 2) from l1.symm)).trans ?_
    refine (zLet_eq (show _ = γ 2 from rfl)).trans ?_
    refine (if_pos w_1).trans ?_
    refine (zLet_eq (show _ = ρ 5 from rfl)).trans ?_
    refine (zLet_eq (show fn11 [ρ 5] (γ 2) = (0, 1, γ 3) from l2.symm)).trans ?_
    refine (zLet_eq (show _ = γ 3 from rfl)).trans ?_
    refine (if_pos zQ1_).trans ?_
    refine (zLet_eq (show fn6 [ρ 0 + 1] (γ 3) = (0, ρ 6, γ 4) from l3.symm)).trans ?_
    refine (zLet_eq (show _ = γ 4 from rfl)).trans ?_
    refine (zLet_eq (show _ = ρ 6 from rfl)).trans ?_
    refine (zLet_eq (show fn6 [ρ 0 + 2] (γ 4) = (0, ρ 7, γ 5) from l4.symm)).trans ?_
    refine (zLet_eq (show _ = γ 5 from rfl)).trans ?_
    refine (if_pos w_2).trans ?_
    refine (zLet_eq (show _ = ρ 7 from rfl)).trans ?_
    refine (zLet_eq (show fn11 [ρ 7] (γ 5) = (0, 1, γ 6) from l5.symm)).trans ?_
    refine (zLet_eq (show _ = γ 6 from rfl)).trans ?_
    refine (if_pos zQ1_).trans ?_
    refine (zLet_eq (show fn6 [ρ 0 + 2] (γ 6) = (0, ρ 8, γ 7) from l6.symm)).trans ?_
    refine (zLet_eq (show _ = γ 7 from rfl)).trans ?_
    refine (zLet_eq (show _ = ρ 8 from rfl)).trans ?_
    refine (zLet_eq (show fn6 [ρ 0 + 3] (γ 7) = (0, ρ 9, γ 8) from l7.symm)).trans ?_
    refine (zLet_eq (show _ = γ 8 from rfl)).trans ?_
    refine (if_pos w_3).trans ?_
    refine (zLet_eq (show _ = ρ 9 from rfl)).trans ?_
    refine (zLet_eq (show fn11 [ρ 9] (γ 8) = (0, 0, γ 9) from l8.symm)).trans ?_
    refine (zLet_eq (show _ = γ 9 from rfl)).trans ?_
    refine (if_neg zQ0_).trans ?_
    refine (zLet_eq c10.symm).trans ?_
    refine (zLet_eq (zF1_ok l9)).trans ?_
    refine (zLet_eq c11.symm).trans ?_
    refine (zLet_eq c12.symm).trans ?_
    rfl
  exact zGoo_end hD
theorem vn14_19 {S : Nat → zSpc} (hS6 : ∀ x g o v gz, S 6 x g o v gz → sn6 x g o v gz) (hS8 : ∀ x g o v gz, S 8 x g o v gz → sn8 x g o v gz) (hS11 : ∀ x g o v gz, S 11 x g o v gz → sn11 x g o v gz) {a : List Int} {g : rHp} : ∀ (ρ : Nat → Int) (γ : Nat → rHp), zO 4 S a g q14_19 ρ γ → zGl (fun i vs g1 => jn14 a g i vs g1) (sn14 a g) q14_19 ρ γ := by
  intro ρ γ h
  obtain ⟨ha, hg, hr, hf, hm, hc, hl⟩ := h
  have ha : a = [ρ 0, ρ 1, ρ 2, ρ 3] := ha
  subst ha
  subst hg
  obtain ⟨-, -, -, -, r4, -⟩ := hr
  have r4 : (45 : Int) ≤ ρ 4 ∧ ρ 4 ≤ 45 := r4
  obtain ⟨f0, -⟩ := hf
  have f0 : (0 : Int) ≤ ρ 1 + -ρ 0 + (-5) := f0
  obtain ⟨w_0, w_1, w_2, w_3, w_4⟩ : (¬ (ρ 4 ≠ 45)) ∧ (0 ≤ ρ 1 + -ρ 0 + (-2)) ∧ (0 ≤ ρ 1 + -ρ 0 + (-3)) ∧ (0 ≤ ρ 1 + -ρ 0 + (-4)) ∧ (0 ≤ ρ 1 + -ρ 0 + (-5)) := ⟨by omega, by omega, by omega, by omega, by omega⟩
  obtain ⟨m0, m1, -⟩ := hm
  have m0 : γ 0 15 0 35 = ρ 0 := m0
  have m1 : γ 0 15 0 34 = ρ 1 := m1
  obtain ⟨⟨⟨-, c13⟩, c14⟩, c15⟩ := hc
  have c13 : γ 13 = rUp (γ 12) 15 0 35 (ρ 0 + 4) := c13
  have c14 : γ 14 = rUp (γ 13) 15 0 39 (ρ 12) := c14
  have c15 : γ 15 = rUp (γ 14) 15 0 40 0 := c15
  obtain ⟨l0, l1, l2, l3, l4, l5, l6, l7, l8, l9, l10, l11, l12, -⟩ := hl
  have l0 : sn6 [ρ 0, ρ 1] (γ 0) 0 (ρ 4) (γ 1) := hS6 _ _ _ _ _ l0
  have l1 : sn6 [ρ 0 + 1, ρ 1] (γ 1) 0 (ρ 5) (γ 2) := hS6 _ _ _ _ _ l1
  have l2 : sn11 [ρ 5] (γ 2) 0 1 (γ 3) := hS11 _ _ _ _ _ l2
  have l3 : sn6 [ρ 0 + 1, ρ 1] (γ 3) 0 (ρ 6) (γ 4) := hS6 _ _ _ _ _ l3
  have l4 : sn6 [ρ 0 + 2, ρ 1] (γ 4) 0 (ρ 7) (γ 5) := hS6 _ _ _ _ _ l4
  have l5 : sn11 [ρ 7] (γ 5) 0 1 (γ 6) := hS11 _ _ _ _ _ l5
  have l6 : sn6 [ρ 0 + 2, ρ 1] (γ 6) 0 (ρ 8) (γ 7) := hS6 _ _ _ _ _ l6
  have l7 : sn6 [ρ 0 + 3, ρ 1] (γ 7) 0 (ρ 9) (γ 8) := hS6 _ _ _ _ _ l7
  have l8 : sn11 [ρ 9] (γ 8) 0 1 (γ 9) := hS11 _ _ _ _ _ l8
  have l9 : sn6 [ρ 0 + 3, ρ 1] (γ 9) 0 (ρ 10) (γ 10) := hS6 _ _ _ _ _ l9
  have l10 : sn6 [ρ 0 + 4, ρ 1] (γ 10) 0 (ρ 11) (γ 11) := hS6 _ _ _ _ _ l10
  have l11 : sn11 [ρ 11] (γ 11) 0 0 (γ 12) := hS11 _ _ _ _ _ l11
  have l12 : zOpP (.lneg) (γ 0) (γ 1) [ρ 10 + (10 * ρ 8 + 100 * ρ 6) + (-5328)] (ρ 12) := l12
  show sn14 [ρ 0, ρ 1, ρ 2, ρ 3] (γ 0) 0 1 (γ 15)
  have hD : dn14 [] (γ 0) = .inr (0, 1, γ 15) := by
    unfold dn14
    refine (zLet_eq m0).trans ?_
    refine (zLet_eq m1).trans ?_
    refine (zLet_eq (show fn6 [ρ 0] (γ 0) = (0, ρ 4, γ 1) from l0.symm)).trans ?_
    refine (zLet_eq (show _ = γ 1 from rfl)).trans ?_
    refine (zLet_eq (show _ = ρ 4 from rfl)).trans ?_
    refine (if_neg w_0).trans ?_
    refine (zLet_eq (show fn6 [ρ 0 + 1] (γ 1) = (0, ρ 5, γ 2) from l1.symm)).trans ?_
    refine (zLet_eq (show _ = γ 2 from rfl)).trans ?_
    refine (if_pos w_1).trans ?_
    refine (zLet_eq (show _ = ρ 5 from rfl)).trans ?_
    refine (zLet_eq (show fn11 [ρ 5] (γ 2) = (0, 1, γ 3) from l2.symm)).trans ?_
    refine (zLet_eq (show _ = γ 3 from rfl)).trans ?_
    refine (if_pos zQ1_).trans ?_
    refine (zLet_eq (show fn6 [ρ 0 + 1] (γ 3) = (0, ρ 6, γ 4) from l3.symm)).trans ?_
    refine (zLet_eq (show _ = γ 4 from rfl)).trans ?_
    refine (zLet_eq (show _ = ρ 6 from rfl)).trans ?_
    refine (zLet_eq (show fn6 [ρ 0 + 2] (γ 4) = (0, ρ 7, γ 5) from l4.symm)).trans ?_
    refine (zLet_eq (show _ = γ 5 from rfl)).trans ?_
    refine (if_pos w_2).trans ?_
    refine (zLet_eq (show _ = ρ 7 from rfl)).trans ?_
    refine (zLet_eq (show fn11 [ρ 7] (γ 5) = (0, 1, γ 6) from l5.symm)).trans ?_
    refine (zLet_eq (show _ = γ 6 from rfl)).trans ?_
    refine (if_pos zQ1_).trans ?_
    refine (zLet_eq (show fn6 [ρ 0 + 2] (γ 6) = (0, ρ 8, γ 7) from l6.symm)).trans ?_
    refine (zLet_eq (show _ = γ 7 from rfl)).trans ?_
    refine (zLet_eq (show _ = ρ 8 from rfl)).trans ?_
    refine (zLet_eq (show fn6 [ρ 0 + 3] (γ 7) = (0, ρ 9, γ 8) from l7.symm)).trans ?_
    refine (zLet_eq (show _ = γ 8 from rfl)).trans ?_
    refine (if_pos w_3).trans ?_
    refine (zLet_eq (show _ = ρ 9 from rfl)).trans ?_
    refine (zLet_eq (show fn11 [ρ 9] (γ 8) = (0, 1, γ 9) from l8.symm)).trans ?_
    refine (zLet_eq (show _ = γ 9 from rfl)).trans ?_
    refine (if_pos zQ1_).trans ?_
    refine (zLet_eq (show fn6 [ρ 0 + 3] (γ 9) = (0, ρ 10, γ 10) from l9.symm)).trans ?_
    refine (zLet_eq (show _ = γ 10 from rfl)).trans ?_
    refine (zLet_eq (show _ = ρ 10 from rfl)).trans ?_
    refine (zLet_eq (show fn6 [ρ 0 + 4] (γ 10) = (0, ρ 11, γ 11) from l10.symm)).trans ?_
    refine (zLet_eq (show _ = γ 11 from rfl)).trans ?_
    refine (if_pos w_4).trans ?_
    refine (zLet_eq (show _ = ρ 11 from rfl)).trans ?_
    refine (zLet_eq (show fn11 [ρ 11] (γ 11) = (0, 0, γ 12) from l11.symm)).trans ?_
    refine (zLet_eq (show _ = γ 12 from rfl)).trans ?_
    refine (if_neg zQ0_).trans ?_
    refine (zLet_eq c13.symm).trans ?_
    refine (zLet_eq (zF1_ok l12)).trans ?_
    refine (zLet_eq c14.symm).trans ?_
    refine (zLet_eq c15.symm).trans ?_
    rfl
  exact zGoo_end hD
theorem vn14_20 {S : Nat → zSpc} (hS6 : ∀ x g o v gz, S 6 x g o v gz → sn6 x g o v gz) (hS8 : ∀ x g o v gz, S 8 x g o v gz → sn8 x g o v gz) (hS11 : ∀ x g o v gz, S 11 x g o v gz → sn11 x g o v gz) {a : List Int} {g : rHp} : ∀ (ρ : Nat → Int) (γ : Nat → rHp), zO 4 S a g q14_20 ρ γ → zGl (fun i vs g1 => jn14 a g i vs g1) (sn14 a g) q14_20 ρ γ := by
  intro ρ γ h
  obtain ⟨ha, hg, hr, hf, hm, hc, hl⟩ := h
  have ha : a = [ρ 0, ρ 1, ρ 2, ρ 3] := ha
  subst ha
  subst hg
  obtain ⟨-, -, -, -, r4, -⟩ := hr
  have r4 : (45 : Int) ≤ ρ 4 ∧ ρ 4 ≤ 45 := r4
  obtain ⟨f0, -⟩ := hf
  have f0 : (0 : Int) ≤ ρ 1 + -ρ 0 + (-6) := f0
  obtain ⟨w_0, w_1, w_2, w_3, w_4, w_5⟩ : (¬ (ρ 4 ≠ 45)) ∧ (0 ≤ ρ 1 + -ρ 0 + (-2)) ∧ (0 ≤ ρ 1 + -ρ 0 + (-3)) ∧ (0 ≤ ρ 1 + -ρ 0 + (-4)) ∧ (0 ≤ ρ 1 + -ρ 0 + (-5)) ∧ (0 ≤ ρ 1 + -ρ 0 + (-6)) := ⟨by omega, by omega, by omega, by omega, by omega, by omega⟩
  obtain ⟨m0, m1, -⟩ := hm
  have m0 : γ 0 15 0 35 = ρ 0 := m0
  have m1 : γ 0 15 0 34 = ρ 1 := m1
  obtain ⟨⟨⟨-, c16⟩, c17⟩, c18⟩ := hc
  have c16 : γ 16 = rUp (γ 15) 15 0 35 (ρ 0 + 5) := c16
  have c17 : γ 17 = rUp (γ 16) 15 0 39 (ρ 14) := c17
  have c18 : γ 18 = rUp (γ 17) 15 0 40 0 := c18
  obtain ⟨l0, l1, l2, l3, l4, l5, l6, l7, l8, l9, l10, l11, l12, l13, l14, l15, -⟩ := hl
  have l0 : sn6 [ρ 0, ρ 1] (γ 0) 0 (ρ 4) (γ 1) := hS6 _ _ _ _ _ l0
  have l1 : sn6 [ρ 0 + 1, ρ 1] (γ 1) 0 (ρ 5) (γ 2) := hS6 _ _ _ _ _ l1
  have l2 : sn11 [ρ 5] (γ 2) 0 1 (γ 3) := hS11 _ _ _ _ _ l2
  have l3 : sn6 [ρ 0 + 1, ρ 1] (γ 3) 0 (ρ 6) (γ 4) := hS6 _ _ _ _ _ l3
  have l4 : sn6 [ρ 0 + 2, ρ 1] (γ 4) 0 (ρ 7) (γ 5) := hS6 _ _ _ _ _ l4
  have l5 : sn11 [ρ 7] (γ 5) 0 1 (γ 6) := hS11 _ _ _ _ _ l5
  have l6 : sn6 [ρ 0 + 2, ρ 1] (γ 6) 0 (ρ 8) (γ 7) := hS6 _ _ _ _ _ l6
  have l7 : sn6 [ρ 0 + 3, ρ 1] (γ 7) 0 (ρ 9) (γ 8) := hS6 _ _ _ _ _ l7
  have l8 : sn11 [ρ 9] (γ 8) 0 1 (γ 9) := hS11 _ _ _ _ _ l8
  have l9 : sn6 [ρ 0 + 3, ρ 1] (γ 9) 0 (ρ 10) (γ 10) := hS6 _ _ _ _ _ l9
  have l10 : sn6 [ρ 0 + 4, ρ 1] (γ 10) 0 (ρ 11) (γ 11) := hS6 _ _ _ _ _ l10
  have l11 : sn11 [ρ 11] (γ 11) 0 1 (γ 12) := hS11 _ _ _ _ _ l11
  have l12 : sn6 [ρ 0 + 4, ρ 1] (γ 12) 0 (ρ 12) (γ 13) := hS6 _ _ _ _ _ l12
  have l13 : sn6 [ρ 0 + 5, ρ 1] (γ 13) 0 (ρ 13) (γ 14) := hS6 _ _ _ _ _ l13
  have l14 : sn11 [ρ 13] (γ 14) 0 0 (γ 15) := hS11 _ _ _ _ _ l14
  have l15 : zOpP (.lneg) (γ 0) (γ 1) [ρ 12 + (10 * ρ 10 + (100 * ρ 8 + 1000 * ρ 6)) + (-53328)] (ρ 14) := l15
  show sn14 [ρ 0, ρ 1, ρ 2, ρ 3] (γ 0) 0 1 (γ 18)
  have hD : dn14 [] (γ 0) = .inr (0, 1, γ 18) := by
    unfold dn14
    refine (zLet_eq m0).trans ?_
    refine (zLet_eq m1).trans ?_
    refine (zLet_eq (show fn6 [ρ 0] (γ 0) = (0, ρ 4, γ 1) from l0.symm)).trans ?_
    refine (zLet_eq (show _ = γ 1 from rfl)).trans ?_
    refine (zLet_eq (show _ = ρ 4 from rfl)).trans ?_
    refine (if_neg w_0).trans ?_
    refine (zLet_eq (show fn6 [ρ 0 + 1] (γ 1) = (0, ρ 5, γ 2) from l1.symm)).trans ?_
    refine (zLet_eq (show _ = γ 2 from rfl)).trans ?_
    refine (if_pos w_1).trans ?_
    refine (zLet_eq (show _ = ρ 5 from rfl)).trans ?_
    refine (zLet_eq (show fn11 [ρ 5] (γ 2) = (0, 1, γ 3) from l2.symm)).trans ?_
    refine (zLet_eq (show _ = γ 3 from rfl)).trans ?_
    refine (if_pos zQ1_).trans ?_
    refine (zLet_eq (show fn6 [ρ 0 + 1] (γ 3) = (0, ρ 6, γ 4) from l3.symm)).trans ?_
    refine (zLet_eq (show _ = γ 4 from rfl)).trans ?_
    refine (zLet_eq (show _ = ρ 6 from rfl)).trans ?_
    refine (zLet_eq (show fn6 [ρ 0 + 2] (γ 4) = (0, ρ 7, γ 5) from l4.symm)).trans ?_
    refine (zLet_eq (show _ = γ 5 from rfl)).trans ?_
    refine (if_pos w_2).trans ?_
    refine (zLet_eq (show _ = ρ 7 from rfl)).trans ?_
    refine (zLet_eq (show fn11 [ρ 7] (γ 5) = (0, 1, γ 6) from l5.symm)).trans ?_
    refine (zLet_eq (show _ = γ 6 from rfl)).trans ?_
    refine (if_pos zQ1_).trans ?_
    refine (zLet_eq (show fn6 [ρ 0 + 2] (γ 6) = (0, ρ 8, γ 7) from l6.symm)).trans ?_
    refine (zLet_eq (show _ = γ 7 from rfl)).trans ?_
    refine (zLet_eq (show _ = ρ 8 from rfl)).trans ?_
    refine (zLet_eq (show fn6 [ρ 0 + 3] (γ 7) = (0, ρ 9, γ 8) from l7.symm)).trans ?_
    refine (zLet_eq (show _ = γ 8 from rfl)).trans ?_
    refine (if_pos w_3).trans ?_
    refine (zLet_eq (show _ = ρ 9 from rfl)).trans ?_
    refine (zLet_eq (show fn11 [ρ 9] (γ 8) = (0, 1, γ 9) from l8.symm)).trans ?_
    refine (zLet_eq (show _ = γ 9 from rfl)).trans ?_
    refine (if_pos zQ1_).trans ?_
    refine (zLet_eq (show fn6 [ρ 0 + 3] (γ 9) = (0, ρ 10, γ 10) from l9.symm)).trans ?_
    refine (zLet_eq (show _ = γ 10 from rfl)).trans ?_
    refine (zLet_eq (show _ = ρ 10 from rfl)).trans ?_
    refine (zLet_eq (show fn6 [ρ 0 + 4] (γ 10) = (0, ρ 11, γ 11) from l10.symm)).trans ?_
    refine (zLet_eq (show _ = γ 11 from rfl)).trans ?_
    refine (if_pos w_4).trans ?_
    refine (zLet_eq (show _ = ρ 11 from rfl)).trans ?_
    refine (zLet_eq (show fn11 [ρ 11] (γ 11) = (0, 1, γ 12) from l11.symm)).trans ?_
    refine (zLet_eq (show _ = γ 12 from rfl)).trans ?_
    refine (if_pos zQ1_).trans ?_
    refine (zLet_eq (show fn6 [ρ 0 + 4] (γ 12) = (0, ρ 12, γ 13) from l12.symm)).trans ?_
    refine (zLet_eq (show _ = γ 13 from rfl)).trans ?_
    refine (zLet_eq (show _ = ρ 12 from rfl)).trans ?_
    refine (zLet_eq (show fn6 [ρ 0 + 5] (γ 13) = (0, ρ 13, γ 14) from l13.symm)).trans ?_
    refine (zLet_eq (show _ = γ 14 from rfl)).trans ?_
    refine (if_pos w_5).trans ?_
    refine (zLet_eq (show _ = ρ 13 from rfl)).trans ?_
    refine (zLet_eq (show fn11 [ρ 13] (γ 14) = (0, 0, γ 15) from l14.symm)).trans ?_
    refine (zLet_eq (show _ = γ 15 from rfl)).trans ?_
    refine (if_neg zQ0_).trans ?_
    refine (zLet_eq c16.symm).trans ?_
    refine (zLet_eq (zF1_ok l15)).trans ?_
    refine (zLet_eq c17.symm).trans ?_
    refine (zLet_eq c18.symm).trans ?_
    rfl
  exact zGoo_end hD
theorem vn14_21 {S : Nat → zSpc} (hS6 : ∀ x g o v gz, S 6 x g o v gz → sn6 x g o v gz) (hS8 : ∀ x g o v gz, S 8 x g o v gz → sn8 x g o v gz) (hS11 : ∀ x g o v gz, S 11 x g o v gz → sn11 x g o v gz) {a : List Int} {g : rHp} : ∀ (ρ : Nat → Int) (γ : Nat → rHp), zO 4 S a g q14_21 ρ γ → zGl (fun i vs g1 => jn14 a g i vs g1) (sn14 a g) q14_21 ρ γ := by
  intro ρ γ h
  obtain ⟨ha, hg, hr, hf, hm, hc, hl⟩ := h
  have ha : a = [ρ 0, ρ 1, ρ 2, ρ 3] := ha
  subst ha
  subst hg
  obtain ⟨-, -, -, -, r4, -⟩ := hr
  have r4 : (45 : Int) ≤ ρ 4 ∧ ρ 4 ≤ 45 := r4
  obtain ⟨f0, -⟩ := hf
  have f0 : (0 : Int) ≤ ρ 1 + -ρ 0 + (-7) := f0
  obtain ⟨w_0, w_1, w_2, w_3, w_4, w_5, w_6⟩ : (¬ (ρ 4 ≠ 45)) ∧ (0 ≤ ρ 1 + -ρ 0 + (-2)) ∧ (0 ≤ ρ 1 + -ρ 0 + (-3)) ∧ (0 ≤ ρ 1 + -ρ 0 + (-4)) ∧ (0 ≤ ρ 1 + -ρ 0 + (-5)) ∧ (0 ≤ ρ 1 + -ρ 0 + (-6)) ∧ (0 ≤ ρ 1 + -ρ 0 + (-7)) := ⟨by omega, by omega, by omega, by omega, by omega, by omega, by omega⟩
  obtain ⟨m0, m1, -⟩ := hm
  have m0 : γ 0 15 0 35 = ρ 0 := m0
  have m1 : γ 0 15 0 34 = ρ 1 := m1
  obtain ⟨⟨⟨-, c19⟩, c20⟩, c21⟩ := hc
  have c19 : γ 19 = rUp (γ 18) 15 0 35 (ρ 0 + 6) := c19
  have c20 : γ 20 = rUp (γ 19) 15 0 39 (ρ 16) := c20
  have c21 : γ 21 = rUp (γ 20) 15 0 40 0 := c21
  obtain ⟨l0, l1, l2, l3, l4, l5, l6, l7, l8, l9, l10, l11, l12, l13, l14, l15, l16, l17, l18, -⟩ := hl
  have l0 : sn6 [ρ 0, ρ 1] (γ 0) 0 (ρ 4) (γ 1) := hS6 _ _ _ _ _ l0
  have l1 : sn6 [ρ 0 + 1, ρ 1] (γ 1) 0 (ρ 5) (γ 2) := hS6 _ _ _ _ _ l1
  have l2 : sn11 [ρ 5] (γ 2) 0 1 (γ 3) := hS11 _ _ _ _ _ l2
  have l3 : sn6 [ρ 0 + 1, ρ 1] (γ 3) 0 (ρ 6) (γ 4) := hS6 _ _ _ _ _ l3
  have l4 : sn6 [ρ 0 + 2, ρ 1] (γ 4) 0 (ρ 7) (γ 5) := hS6 _ _ _ _ _ l4
  have l5 : sn11 [ρ 7] (γ 5) 0 1 (γ 6) := hS11 _ _ _ _ _ l5
  have l6 : sn6 [ρ 0 + 2, ρ 1] (γ 6) 0 (ρ 8) (γ 7) := hS6 _ _ _ _ _ l6
  have l7 : sn6 [ρ 0 + 3, ρ 1] (γ 7) 0 (ρ 9) (γ 8) := hS6 _ _ _ _ _ l7
  have l8 : sn11 [ρ 9] (γ 8) 0 1 (γ 9) := hS11 _ _ _ _ _ l8
  have l9 : sn6 [ρ 0 + 3, ρ 1] (γ 9) 0 (ρ 10) (γ 10) := hS6 _ _ _ _ _ l9
  have l10 : sn6 [ρ 0 + 4, ρ 1] (γ 10) 0 (ρ 11) (γ 11) := hS6 _ _ _ _ _ l10
  have l11 : sn11 [ρ 11] (γ 11) 0 1 (γ 12) := hS11 _ _ _ _ _ l11
  have l12 : sn6 [ρ 0 + 4, ρ 1] (γ 12) 0 (ρ 12) (γ 13) := hS6 _ _ _ _ _ l12
  have l13 : sn6 [ρ 0 + 5, ρ 1] (γ 13) 0 (ρ 13) (γ 14) := hS6 _ _ _ _ _ l13
  have l14 : sn11 [ρ 13] (γ 14) 0 1 (γ 15) := hS11 _ _ _ _ _ l14
  have l15 : sn6 [ρ 0 + 5, ρ 1] (γ 15) 0 (ρ 14) (γ 16) := hS6 _ _ _ _ _ l15
  have l16 : sn6 [ρ 0 + 6, ρ 1] (γ 16) 0 (ρ 15) (γ 17) := hS6 _ _ _ _ _ l16
  have l17 : sn11 [ρ 15] (γ 17) 0 0 (γ 18) := hS11 _ _ _ _ _ l17
  have l18 : zOpP (.lneg) (γ 0) (γ 1) [ρ 14 + (10 * ρ 12 + (100 * ρ 10 + (1000 * ρ 8 + 10000 * ρ 6))) + (-533328)] (ρ 16) := l18
  show sn14 [ρ 0, ρ 1, ρ 2, ρ 3] (γ 0) 0 1 (γ 21)
  have hD : dn14 [] (γ 0) = .inr (0, 1, γ 21) := by
    unfold dn14
    refine (zLet_eq m0).trans ?_
    refine (zLet_eq m1).trans ?_
    refine (zLet_eq (show fn6 [ρ 0] (γ 0) = (0, ρ 4, γ 1) from l0.symm)).trans ?_
    refine (zLet_eq (show _ = γ 1 from rfl)).trans ?_
    refine (zLet_eq (show _ = ρ 4 from rfl)).trans ?_
    refine (if_neg w_0).trans ?_
    refine (zLet_eq (show fn6 [ρ 0 + 1] (γ 1) = (0, ρ 5, γ 2) from l1.symm)).trans ?_
    refine (zLet_eq (show _ = γ 2 from rfl)).trans ?_
    refine (if_pos w_1).trans ?_
    refine (zLet_eq (show _ = ρ 5 from rfl)).trans ?_
    refine (zLet_eq (show fn11 [ρ 5] (γ 2) = (0, 1, γ 3) from l2.symm)).trans ?_
    refine (zLet_eq (show _ = γ 3 from rfl)).trans ?_
    refine (if_pos zQ1_).trans ?_
    refine (zLet_eq (show fn6 [ρ 0 + 1] (γ 3) = (0, ρ 6, γ 4) from l3.symm)).trans ?_
    refine (zLet_eq (show _ = γ 4 from rfl)).trans ?_
    refine (zLet_eq (show _ = ρ 6 from rfl)).trans ?_
    refine (zLet_eq (show fn6 [ρ 0 + 2] (γ 4) = (0, ρ 7, γ 5) from l4.symm)).trans ?_
    refine (zLet_eq (show _ = γ 5 from rfl)).trans ?_
    refine (if_pos w_2).trans ?_
    refine (zLet_eq (show _ = ρ 7 from rfl)).trans ?_
    refine (zLet_eq (show fn11 [ρ 7] (γ 5) = (0, 1, γ 6) from l5.symm)).trans ?_
    refine (zLet_eq (show _ = γ 6 from rfl)).trans ?_
    refine (if_pos zQ1_).trans ?_
    refine (zLet_eq (show fn6 [ρ 0 + 2] (γ 6) = (0, ρ 8, γ 7) from l6.symm)).trans ?_
    refine (zLet_eq (show _ = γ 7 from rfl)).trans ?_
    refine (zLet_eq (show _ = ρ 8 from rfl)).trans ?_
    refine (zLet_eq (show fn6 [ρ 0 + 3] (γ 7) = (0, ρ 9, γ 8) from l7.symm)).trans ?_
    refine (zLet_eq (show _ = γ 8 from rfl)).trans ?_
    refine (if_pos w_3).trans ?_
    refine (zLet_eq (show _ = ρ 9 from rfl)).trans ?_
    refine (zLet_eq (show fn11 [ρ 9] (γ 8) = (0, 1, γ 9) from l8.symm)).trans ?_
    refine (zLet_eq (show _ = γ 9 from rfl)).trans ?_
    refine (if_pos zQ1_).trans ?_
    refine (zLet_eq (show fn6 [ρ 0 + 3] (γ 9) = (0, ρ 10, γ 10) from l9.symm)).trans ?_
    refine (zLet_eq (show _ = γ 10 from rfl)).trans ?_
    refine (zLet_eq (show _ = ρ 10 from rfl)).trans ?_
    refine (zLet_eq (show fn6 [ρ 0 + 4] (γ 10) = (0, ρ 11, γ 11) from l10.symm)).trans ?_
    refine (zLet_eq (show _ = γ 11 from rfl)).trans ?_
    refine (if_pos w_4).trans ?_
    refine (zLet_eq (show _ = ρ 11 from rfl)).trans ?_
    refine (zLet_eq (show fn11 [ρ 11] (γ 11) = (0, 1, γ 12) from l11.symm)).trans ?_
    refine (zLet_eq (show _ = γ 12 from rfl)).trans ?_
    refine (if_pos zQ1_).trans ?_
    refine (zLet_eq (show fn6 [ρ 0 + 4] (γ 12) = (0, ρ 12, γ 13) from l12.symm)).trans ?_
    refine (zLet_eq (show _ = γ 13 from rfl)).trans ?_
    refine (zLet_eq (show _ = ρ 12 from rfl)).trans ?_
    refine (zLet_eq (show fn6 [ρ 0 + 5] (γ 13) = (0, ρ 13, γ 14) from l13.symm)).trans ?_
    refine (zLet_eq (show _ = γ 14 from rfl)).trans ?_
    refine (if_pos w_5).trans ?_
    refine (zLet_eq (show _ = ρ 13 from rfl)).trans ?_
    refine (zLet_eq (show fn11 [ρ 13] (γ 14) = (0, 1, γ 15) from l14.symm)).trans ?_
    refine (zLet_eq (show _ = γ 15 from rfl)).trans ?_
    refine (if_pos zQ1_).trans ?_
    refine (zLet_eq (show fn6 [ρ 0 + 5] (γ 15) = (0, ρ 14, γ 16) from l15.symm)).trans ?_
    refine (zLet_eq (show _ = γ 16 from rfl)).trans ?_
    refine (zLet_eq (show _ = ρ 14 from rfl)).trans ?_
    refine (zLet_eq (show fn6 [ρ 0 + 6] (γ 16) = (0, ρ 15, γ 17) from l16.symm)).trans ?_
    refine (zLet_eq (show _ = γ 17 from rfl)).trans ?_
    refine (if_pos w_6).trans ?_
    refine (zLet_eq (show _ = ρ 15 from rfl)).trans ?_
    refine (zLet_eq (show fn11 [ρ 15] (γ 17) = (0, 0, γ 18) from l17.symm)).trans ?_
    refine (zLet_eq (show _ = γ 18 from rfl)).trans ?_
    refine (if_neg zQ0_).trans ?_
    refine (zLet_eq c19.symm).trans ?_
    refine (zLet_eq (zF1_ok l18)).trans ?_
    refine (zLet_eq c20.symm).trans ?_
    refine (zLet_eq c21.symm).trans ?_
    rfl
  exact zGoo_end hD
theorem vn14_22 {S : Nat → zSpc} (hS6 : ∀ x g o v gz, S 6 x g o v gz → sn6 x g o v gz) (hS8 : ∀ x g o v gz, S 8 x g o v gz → sn8 x g o v gz) (hS11 : ∀ x g o v gz, S 11 x g o v gz → sn11 x g o v gz) {a : List Int} {g : rHp} : ∀ (ρ : Nat → Int) (γ : Nat → rHp), zO 4 S a g q14_22 ρ γ → zGl (fun i vs g1 => jn14 a g i vs g1) (sn14 a g) q14_22 ρ γ := by
  intro ρ γ h
  obtain ⟨ha, hg, hr, hf, hm, hc, hl⟩ := h
  have ha : a = [ρ 0, ρ 1, ρ 2, ρ 3] := ha
  subst ha
  subst hg
  obtain ⟨-, -, -, -, r4, -⟩ := hr
  have r4 : (45 : Int) ≤ ρ 4 ∧ ρ 4 ≤ 45 := r4
  obtain ⟨f0, -⟩ := hf
  have f0 : (0 : Int) ≤ ρ 1 + -ρ 0 + (-8) := f0
  obtain ⟨w_0, w_1, w_2, w_3, w_4, w_5, w_6, w_7⟩ : (¬ (ρ 4 ≠ 45)) ∧ (0 ≤ ρ 1 + -ρ 0 + (-2)) ∧ (0 ≤ ρ 1 + -ρ 0 + (-3)) ∧ (0 ≤ ρ 1 + -ρ 0 + (-4)) ∧ (0 ≤ ρ 1 + -ρ 0 + (-5)) ∧ (0 ≤ ρ 1 + -ρ 0 + (-6)) ∧ (0 ≤ ρ 1 + -ρ 0 + (-7)) ∧ (0 ≤ ρ 1 + -ρ 0 + (-8)) := ⟨by omega, by omega, by omega, by omega, by omega, by omega, by omega, by omega⟩
  obtain ⟨m0, m1, -⟩ := hm
  have m0 : γ 0 15 0 35 = ρ 0 := m0
  have m1 : γ 0 15 0 34 = ρ 1 := m1
  obtain ⟨⟨⟨-, c22⟩, c23⟩, c24⟩ := hc
  have c22 : γ 22 = rUp (γ 21) 15 0 35 (ρ 0 + 7) := c22
  have c23 : γ 23 = rUp (γ 22) 15 0 39 (ρ 18) := c23
  have c24 : γ 24 = rUp (γ 23) 15 0 40 0 := c24
  obtain ⟨l0, l1, l2, l3, l4, l5, l6, l7, l8, l9, l10, l11, l12, l13, l14, l15, l16, l17, l18, l19, l20, l21, -⟩ := hl
  have l0 : sn6 [ρ 0, ρ 1] (γ 0) 0 (ρ 4) (γ 1) := hS6 _ _ _ _ _ l0
  have l1 : sn6 [ρ 0 + 1, ρ 1] (γ 1) 0 (ρ 5) (γ 2) := hS6 _ _ _ _ _ l1
  have l2 : sn11 [ρ 5] (γ 2) 0 1 (γ 3) := hS11 _ _ _ _ _ l2
  have l3 : sn6 [ρ 0 + 1, ρ 1] (γ 3) 0 (ρ 6) (γ 4) := hS6 _ _ _ _ _ l3
  have l4 : sn6 [ρ 0 + 2, ρ 1] (γ 4) 0 (ρ 7) (γ 5) := hS6 _ _ _ _ _ l4
  have l5 : sn11 [ρ 7] (γ 5) 0 1 (γ 6) := hS11 _ _ _ _ _ l5
  have l6 : sn6 [ρ 0 + 2, ρ 1] (γ 6) 0 (ρ 8) (γ 7) := hS6 _ _ _ _ _ l6
  have l7 : sn6 [ρ 0 + 3, ρ 1] (γ 7) 0 (ρ 9) (γ 8) := hS6 _ _ _ _ _ l7
  have l8 : sn11 [ρ 9] (γ 8) 0 1 (γ 9) := hS11 _ _ _ _ _ l8
  have l9 : sn6 [ρ 0 + 3, ρ 1] (γ 9) 0 (ρ 10) (γ 10) := hS6 _ _ _ _ _ l9
  have l10 : sn6 [ρ 0 + 4, ρ 1] (γ 10) 0 (ρ 11) (γ 11) := hS6 _ _ _ _ _ l10
  have l11 : sn11 [ρ 11] (γ 11) 0 1 (γ 12) := hS11 _ _ _ _ _ l11
  have l12 : sn6 [ρ 0 + 4, ρ 1] (γ 12) 0 (ρ 12) (γ 13) := hS6 _ _ _ _ _ l12
  have l13 : sn6 [ρ 0 + 5, ρ 1] (γ 13) 0 (ρ 13) (γ 14) := hS6 _ _ _ _ _ l13
  have l14 : sn11 [ρ 13] (γ 14) 0 1 (γ 15) := hS11 _ _ _ _ _ l14
  have l15 : sn6 [ρ 0 + 5, ρ 1] (γ 15) 0 (ρ 14) (γ 16) := hS6 _ _ _ _ _ l15
  have l16 : sn6 [ρ 0 + 6, ρ 1] (γ 16) 0 (ρ 15) (γ 17) := hS6 _ _ _ _ _ l16
  have l17 : sn11 [ρ 15] (γ 17) 0 1 (γ 18) := hS11 _ _ _ _ _ l17
  have l18 : sn6 [ρ 0 + 6, ρ 1] (γ 18) 0 (ρ 16) (γ 19) := hS6 _ _ _ _ _ l18
  have l19 : sn6 [ρ 0 + 7, ρ 1] (γ 19) 0 (ρ 17) (γ 20) := hS6 _ _ _ _ _ l19
  have l20 : sn11 [ρ 17] (γ 20) 0 0 (γ 21) := hS11 _ _ _ _ _ l20
  have l21 : zOpP (.lneg) (γ 0) (γ 1) [ρ 16 + (10 * ρ 14 + (100 * ρ 12 + (1000 * ρ 10 + (10000 * ρ 8 + 100000 * ρ 6)))) + (-5333328)] (ρ 18) := l21
  show sn14 [ρ 0, ρ 1, ρ 2, ρ 3] (γ 0) 0 1 (γ 24)
  have hD : dn14 [] (γ 0) = .inr (0, 1, γ 24) := by
    unfold dn14
    refine (zLet_eq m0).trans ?_
    refine (zLet_eq m1).trans ?_
    refine (zLet_eq (show fn6 [ρ 0] (γ 0) = (0, ρ 4, γ 1) from l0.symm)).trans ?_
    refine (zLet_eq (show _ = γ 1 from rfl)).trans ?_
    refine (zLet_eq (show _ = ρ 4 from rfl)).trans ?_
    refine (if_neg w_0).trans ?_
    refine (zLet_eq (show fn6 [ρ 0 + 1] (γ 1) = (0, ρ 5, γ 2) from l1.symm)).trans ?_
    refine (zLet_eq (show _ = γ 2 from rfl)).trans ?_
    refine (if_pos w_1).trans ?_
    refine (zLet_eq (show _ = ρ 5 from rfl)).trans ?_
    refine (zLet_eq (show fn11 [ρ 5] (γ 2) = (0, 1, γ 3) from l2.symm)).trans ?_
    refine (zLet_eq (show _ = γ 3 from rfl)).trans ?_
    refine (if_pos zQ1_).trans ?_
    refine (zLet_eq (show fn6 [ρ 0 + 1] (γ 3) = (0, ρ 6, γ 4) from l3.symm)).trans ?_
    refine (zLet_eq (show _ = γ 4 from rfl)).trans ?_
    refine (zLet_eq (show _ = ρ 6 from rfl)).trans ?_
    refine (zLet_eq (show fn6 [ρ 0 + 2] (γ 4) = (0, ρ 7, γ 5) from l4.symm)).trans ?_
    refine (zLet_eq (show _ = γ 5 from rfl)).trans ?_
    refine (if_pos w_2).trans ?_
    refine (zLet_eq (show _ = ρ 7 from rfl)).trans ?_
    refine (zLet_eq (show fn11 [ρ 7] (γ 5) = (0, 1, γ 6) from l5.symm)).trans ?_
    refine (zLet_eq (show _ = γ 6 from rfl)).trans ?_
    refine (if_pos zQ1_).trans ?_
    refine (zLet_eq (show fn6 [ρ 0 + 2] (γ 6) = (0, ρ 8, γ 7) from l6.symm)).trans ?_
    refine (zLet_eq (show _ = γ 7 from rfl)).trans ?_
    refine (zLet_eq (show _ = ρ 8 from rfl)).trans ?_
    refine (zLet_eq (show fn6 [ρ 0 + 3] (γ 7) = (0, ρ 9, γ 8) from l7.symm)).trans ?_
    refine (zLet_eq (show _ = γ 8 from rfl)).trans ?_
    refine (if_pos w_3).trans ?_
    refine (zLet_eq (show _ = ρ 9 from rfl)).trans ?_
    refine (zLet_eq (show fn11 [ρ 9] (γ 8) = (0, 1, γ 9) from l8.symm)).trans ?_
    refine (zLet_eq (show _ = γ 9 from rfl)).trans ?_
    refine (if_pos zQ1_).trans ?_
    refine (zLet_eq (show fn6 [ρ 0 + 3] (γ 9) = (0, ρ 10, γ 10) from l9.symm)).trans ?_
    refine (zLet_eq (show _ = γ 10 from rfl)).trans ?_
    refine (zLet_eq (show _ = ρ 10 from rfl)).trans ?_
    refine (zLet_eq (show fn6 [ρ 0 + 4] (γ 10) = (0, ρ 11, γ 11) from l10.symm)).trans ?_
    refine (zLet_eq (show _ = γ 11 from rfl)).trans ?_
    refine (if_pos w_4).trans ?_
    refine (zLet_eq (show _ = ρ 11 from rfl)).trans ?_
    refine (zLet_eq (show fn11 [ρ 11] (γ 11) = (0, 1, γ 12) from l11.symm)).trans ?_
    refine (zLet_eq (show _ = γ 12 from rfl)).trans ?_
    refine (if_pos zQ1_).trans ?_
    refine (zLet_eq (show fn6 [ρ 0 + 4] (γ 12) = (0, ρ 12, γ 13) from l12.symm)).trans ?_
    refine (zLet_eq (show _ = γ 13 from rfl)).trans ?_
    refine (zLet_eq (show _ = ρ 12 from rfl)).trans ?_
    refine (zLet_eq (show fn6 [ρ 0 + 5] (γ 13) = (0, ρ 13, γ 14) from l13.symm)).trans ?_
    refine (zLet_eq (show _ = γ 14 from rfl)).trans ?_
    refine (if_pos w_5).trans ?_
    refine (zLet_eq (show _ = ρ 13 from rfl)).trans ?_
    refine (zLet_eq (show fn11 [ρ 13] (γ 14) = (0, 1, γ 15) from l14.symm)).trans ?_
    refine (zLet_eq (show _ = γ 15 from rfl)).trans ?_
    refine (if_pos zQ1_).trans ?_
    refine (zLet_eq (show fn6 [ρ 0 + 5] (γ 15) = (0, ρ 14, γ 16) from l15.symm)).trans ?_
    refine (zLet_eq (show _ = γ 16 from rfl)).trans ?_
    refine (zLet_eq (show _ = ρ 14 from rfl)).trans ?_
    refine (zLet_eq (show fn6 [ρ 0 + 6] (γ 16) = (0, ρ 15, γ 17) from l16.symm)).trans ?_
    refine (zLet_eq (show _ = γ 17 from rfl)).trans ?_
    refine (if_pos w_6).trans ?_
    refine (zLet_eq (show _ = ρ 15 from rfl)).trans ?_
    refine (zLet_eq (show fn11 [ρ 15] (γ 17) = (0, 1, γ 18) from l17.symm)).trans ?_
    refine (zLet_eq (show _ = γ 18 from rfl)).trans ?_
    refine (if_pos zQ1_).trans ?_
    refine (zLet_eq (show fn6 [ρ 0 + 6] (γ 18) = (0, ρ 16, γ 19) from l18.symm)).trans ?_
    refine (zLet_eq (show _ = γ 19 from rfl)).trans ?_
    refine (zLet_eq (show _ = ρ 16 from rfl)).trans ?_
    refine (zLet_eq (show fn6 [ρ 0 + 7] (γ 19) = (0, ρ 17, γ 20) from l19.symm)).trans ?_
    refine (zLet_eq (show _ = γ 20 from rfl)).trans ?_
    refine (if_pos w_7).trans ?_
    refine (zLet_eq (show _ = ρ 17 from rfl)).trans ?_
    refine (zLet_eq (show fn11 [ρ 17] (γ 20) = (0, 0, γ 21) from l20.symm)).trans ?_
    refine (zLet_eq (show _ = γ 21 from rfl)).trans ?_
    refine (if_neg zQ0_).trans ?_
    refine (zLet_eq c22.symm).trans ?_
    refine (zLet_eq (zF1_ok l21)).trans ?_
    refine (zLet_eq c23.symm).trans ?_
    refine (zLet_eq c24.symm).trans ?_
    rfl
  exact zGoo_end hD
theorem vn14_23 {S : Nat → zSpc} (hS6 : ∀ x g o v gz, S 6 x g o v gz → sn6 x g o v gz) (hS8 : ∀ x g o v gz, S 8 x g o v gz → sn8 x g o v gz) (hS11 : ∀ x g o v gz, S 11 x g o v gz → sn11 x g o v gz) {a : List Int} {g : rHp} : ∀ (ρ : Nat → Int) (γ : Nat → rHp), zO 4 S a g q14_23 ρ γ → zGl (fun i vs g1 => jn14 a g i vs g1) (sn14 a g) q14_23 ρ γ := by
  intro ρ γ h
  obtain ⟨ha, hg, hr, hf, hm, hc, hl⟩ := h
  have ha : a = [ρ 0, ρ 1, ρ 2, ρ 3] := ha
  subst ha
  subst hg
  obtain ⟨-, -, -, -, r4, -⟩ := hr
  have r4 : (45 : Int) ≤ ρ 4 ∧ ρ 4 ≤ 45 := r4
  obtain ⟨f0, -⟩ := hf
  have f0 : (0 : Int) ≤ ρ 1 + -ρ 0 + (-9) := f0
  obtain ⟨w_0, w_1, w_2, w_3, w_4, w_5, w_6, w_7, w_8⟩ : (¬ (ρ 4 ≠ 45)) ∧ (0 ≤ ρ 1 + -ρ 0 + (-2)) ∧ (0 ≤ ρ 1 + -ρ 0 + (-3)) ∧ (0 ≤ ρ 1 + -ρ 0 + (-4)) ∧ (0 ≤ ρ 1 + -ρ 0 + (-5)) ∧ (0 ≤ ρ 1 + -ρ 0 + (-6)) ∧ (0 ≤ ρ 1 + -ρ 0 + (-7)) ∧ (0 ≤ ρ 1 + -ρ 0 + (-8)) ∧ (0 ≤ ρ 1 + -ρ 0 + (-9)) := ⟨by omega, by omega, by omega, by omega, by omega, by omega, by omega, by omega, by omega⟩
  obtain ⟨m0, m1, -⟩ := hm
  have m0 : γ 0 15 0 35 = ρ 0 := m0
  have m1 : γ 0 15 0 34 = ρ 1 := m1
  obtain ⟨⟨⟨-, c25⟩, c26⟩, c27⟩ := hc
  have c25 : γ 25 = rUp (γ 24) 15 0 35 (ρ 0 + 8) := c25
  have c26 : γ 26 = rUp (γ 25) 15 0 39 (ρ 20) := c26
  have c27 : γ 27 = rUp (γ 26) 15 0 40 0 := c27
  obtain ⟨l0, l1, l2, l3, l4, l5, l6, l7, l8, l9, l10, l11, l12, l13, l14, l15, l16, l17, l18, l19, l20, l21, l22, l23, l24, -⟩ := hl
  have l0 : sn6 [ρ 0, ρ 1] (γ 0) 0 (ρ 4) (γ 1) := hS6 _ _ _ _ _ l0
  have l1 : sn6 [ρ 0 + 1, ρ 1] (γ 1) 0 (ρ 5) (γ 2) := hS6 _ _ _ _ _ l1
  have l2 : sn11 [ρ 5] (γ 2) 0 1 (γ 3) := hS11 _ _ _ _ _ l2
  have l3 : sn6 [ρ 0 + 1, ρ 1] (γ 3) 0 (ρ 6) (γ 4) := hS6 _ _ _ _ _ l3
  have l4 : sn6 [ρ 0 + 2, ρ 1] (γ 4) 0 (ρ 7) (γ 5) := hS6 _ _ _ _ _ l4
  have l5 : sn11 [ρ 7] (γ 5) 0 1 (γ 6) := hS11 _ _ _ _ _ l5
  have l6 : sn6 [ρ 0 + 2, ρ 1] (γ 6) 0 (ρ 8) (γ 7) := hS6 _ _ _ _ _ l6
  have l7 : sn6 [ρ 0 + 3, ρ 1] (γ 7) 0 (ρ 9) (γ 8) := hS6 _ _ _ _ _ l7
  have l8 : sn11 [ρ 9] (γ 8) 0 1 (γ 9) := hS11 _ _ _ _ _ l8
  have l9 : sn6 [ρ 0 + 3, ρ 1] (γ 9) 0 (ρ 10) (γ 10) := hS6 _ _ _ _ _ l9
  have l10 : sn6 [ρ 0 + 4, ρ 1] (γ 10) 0 (ρ 11) (γ 11) := hS6 _ _ _ _ _ l10
  have l11 : sn11 [ρ 11] (γ 11) 0 1 (γ 12) := hS11 _ _ _ _ _ l11
  have l12 : sn6 [ρ 0 + 4, ρ 1] (γ 12) 0 (ρ 12) (γ 13) := hS6 _ _ _ _ _ l12
  have l13 : sn6 [ρ 0 + 5, ρ 1] (γ 13) 0 (ρ 13) (γ 14) := hS6 _ _ _ _ _ l13
  have l14 : sn11 [ρ 13] (γ 14) 0 1 (γ 15) := hS11 _ _ _ _ _ l14
  have l15 : sn6 [ρ 0 + 5, ρ 1] (γ 15) 0 (ρ 14) (γ 16) := hS6 _ _ _ _ _ l15
  have l16 : sn6 [ρ 0 + 6, ρ 1] (γ 16) 0 (ρ 15) (γ 17) := hS6 _ _ _ _ _ l16
  have l17 : sn11 [ρ 15] (γ 17) 0 1 (γ 18) := hS11 _ _ _ _ _ l17
  have l18 : sn6 [ρ 0 + 6, ρ 1] (γ 18) 0 (ρ 16) (γ 19) := hS6 _ _ _ _ _ l18
  have l19 : sn6 [ρ 0 + 7, ρ 1] (γ 19) 0 (ρ 17) (γ 20) := hS6 _ _ _ _ _ l19
  have l20 : sn11 [ρ 17] (γ 20) 0 1 (γ 21) := hS11 _ _ _ _ _ l20
  have l21 : sn6 [ρ 0 + 7, ρ 1] (γ 21) 0 (ρ 18) (γ 22) := hS6 _ _ _ _ _ l21
  have l22 : sn6 [ρ 0 + 8, ρ 1] (γ 22) 0 (ρ 19) (γ 23) := hS6 _ _ _ _ _ l22
  have l23 : sn11 [ρ 19] (γ 23) 0 0 (γ 24) := hS11 _ _ _ _ _ l23
  have l24 : zOpP (.lneg) (γ 0) (γ 1) [ρ 18 + (10 * ρ 16 + (100 * ρ 14 + (1000 * ρ 12 + (10000 * ρ 10 + (100000 * ρ 8 + 1000000 * ρ 6))))) + (-53333328)] (ρ 20) := l24
  show sn14 [ρ 0, ρ 1, ρ 2, ρ 3] (γ 0) 0 1 (γ 27)
  have hD : dn14 [] (γ 0) = .inr (0, 1, γ 27) := by
    unfold dn14
    refine (zLet_eq m0).trans ?_
    refine (zLet_eq m1).trans ?_
    refine (zLet_eq (show fn6 [ρ 0] (γ 0) = (0, ρ 4, γ 1) from l0.symm)).trans ?_
    refine (zLet_eq (show _ = γ 1 from rfl)).trans ?_
    refine (zLet_eq (show _ = ρ 4 from rfl)).trans ?_
    refine (if_neg w_0).trans ?_
    refine (zLet_eq (show fn6 [ρ 0 + 1] (γ 1) = (0, ρ 5, γ 2) from l1.symm)).trans ?_
    refine (zLet_eq (show _ = γ 2 from rfl)).trans ?_
    refine (if_pos w_1).trans ?_
    refine (zLet_eq (show _ = ρ 5 from rfl)).trans ?_
    refine (zLet_eq (show fn11 [ρ 5] (γ 2) = (0, 1, γ 3) from l2.symm)).trans ?_
    refine (zLet_eq (show _ = γ 3 from rfl)).trans ?_
    refine (if_pos zQ1_).trans ?_
    refine (zLet_eq (show fn6 [ρ 0 + 1] (γ 3) = (0, ρ 6, γ 4) from l3.symm)).trans ?_
    refine (zLet_eq (show _ = γ 4 from rfl)).trans ?_
    refine (zLet_eq (show _ = ρ 6 from rfl)).trans ?_
    refine (zLet_eq (show fn6 [ρ 0 + 2] (γ 4) = (0, ρ 7, γ 5) from l4.symm)).trans ?_
    refine (zLet_eq (show _ = γ 5 from rfl)).trans ?_
    refine (if_pos w_2).trans ?_
    refine (zLet_eq (show _ = ρ 7 from rfl)).trans ?_
    refine (zLet_eq (show fn11 [ρ 7] (γ 5) = (0, 1, γ 6) from l5.symm)).trans ?_
    refine (zLet_eq (show _ = γ 6 from rfl)).trans ?_
    refine (if_pos zQ1_).trans ?_
    refine (zLet_eq (show fn6 [ρ 0 + 2] (γ 6) = (0, ρ 8, γ 7) from l6.symm)).trans ?_
    refine (zLet_eq (show _ = γ 7 from rfl)).trans ?_
    refine (zLet_eq (show _ = ρ 8 from rfl)).trans ?_
    refine (zLet_eq (show fn6 [ρ 0 + 3] (γ 7) = (0, ρ 9, γ 8) from l7.symm)).trans ?_
    refine (zLet_eq (show _ = γ 8 from rfl)).trans ?_
    refine (if_pos w_3).trans ?_
    refine (zLet_eq (show _ = ρ 9 from rfl)).trans ?_
    refine (zLet_eq (show fn11 [ρ 9] (γ 8) = (0, 1, γ 9) from l8.symm)).trans ?_
    refine (zLet_eq (show _ = γ 9 from rfl)).trans ?_
    refine (if_pos zQ1_).trans ?_
    refine (zLet_eq (show fn6 [ρ 0 + 3] (γ 9) = (0, ρ 10, γ 10) from l9.symm)).trans ?_
    refine (zLet_eq (show _ = γ 10 from rfl)).trans ?_
    refine (zLet_eq (show _ = ρ 10 from rfl)).trans ?_
    refine (zLet_eq (show fn6 [ρ 0 + 4] (γ 10) = (0, ρ 11, γ 11) from l10.symm)).trans ?_
    refine (zLet_eq (show _ = γ 11 from rfl)).trans ?_
    refine (if_pos w_4).trans ?_
    refine (zLet_eq (show _ = ρ 11 from rfl)).trans ?_
    refine (zLet_eq (show fn11 [ρ 11] (γ 11) = (0, 1, γ 12) from l11.symm)).trans ?_
    refine (zLet_eq (show _ = γ 12 from rfl)).trans ?_
    refine (if_pos zQ1_).trans ?_
    refine (zLet_eq (show fn6 [ρ 0 + 4] (γ 12) = (0, ρ 12, γ 13) from l12.symm)).trans ?_
    refine (zLet_eq (show _ = γ 13 from rfl)).trans ?_
    refine (zLet_eq (show _ = ρ 12 from rfl)).trans ?_
    refine (zLet_eq (show fn6 [ρ 0 + 5] (γ 13) = (0, ρ 13, γ 14) from l13.symm)).trans ?_
    refine (zLet_eq (show _ = γ 14 from rfl)).trans ?_
    refine (if_pos w_5).trans ?_
    refine (zLet_eq (show _ = ρ 13 from rfl)).trans ?_
    refine (zLet_eq (show fn11 [ρ 13] (γ 14) = (0, 1, γ 15) from l14.symm)).trans ?_
    refine (zLet_eq (show _ = γ 15 from rfl)).trans ?_
    refine (if_pos zQ1_).trans ?_
    refine (zLet_eq (show fn6 [ρ 0 + 5] (γ 15) = (0, ρ 14, γ 16) from l15.symm)).trans ?_
    refine (zLet_eq (show _ = γ 16 from rfl)).trans ?_
    refine (zLet_eq (show _ = ρ 14 from rfl)).trans ?_
    refine (zLet_eq (show fn6 [ρ 0 + 6] (γ 16) = (0, ρ 15, γ 17) from l16.symm)).trans ?_
    refine (zLet_eq (show _ = γ 17 from rfl)).trans ?_
    refine (if_pos w_6).trans ?_
    refine (zLet_eq (show _ = ρ 15 from rfl)).trans ?_
    refine (zLet_eq (show fn11 [ρ 15] (γ 17) = (0, 1, γ 18) from l17.symm)).trans ?_
    refine (zLet_eq (show _ = γ 18 from rfl)).trans ?_
    refine (if_pos zQ1_).trans ?_
    refine (zLet_eq (show fn6 [ρ 0 + 6] (γ 18) = (0, ρ 16, γ 19) from l18.symm)).trans ?_
    refine (zLet_eq (show _ = γ 19 from rfl)).trans ?_
    refine (zLet_eq (show _ = ρ 16 from rfl)).trans ?_
    refine (zLet_eq (show fn6 [ρ 0 + 7] (γ 19) = (0, ρ 17, γ 20) from l19.symm)).trans ?_
    refine (zLet_eq (show _ = γ 20 from rfl)).trans ?_
    refine (if_pos w_7).trans ?_
    refine (zLet_eq (show _ = ρ 17 from rfl)).trans ?_
    refine (zLet_eq (show fn11 [ρ 17] (γ 20) = (0, 1, γ 21) from l20.symm)).trans ?_
    refine (zLet_eq (show _ = γ 21 from rfl)).trans ?_
    refine (if_pos zQ1_).trans ?_
    refine (zLet_eq (show fn6 [ρ 0 + 7] (γ 21) = (0, ρ 18, γ 22) from l21.symm)).trans ?_
    refine (zLet_eq (show _ = γ 22 from rfl)).trans ?_
    refine (zLet_eq (show _ = ρ 18 from rfl)).trans ?_
    refine (zLet_eq (show fn6 [ρ 0 + 8] (γ 22) = (0, ρ 19, γ 23) from l22.symm)).trans ?_
    refine (zLet_eq (show _ = γ 23 from rfl)).trans ?_
    refine (if_pos w_8).trans ?_
    refine (zLet_eq (show _ = ρ 19 from rfl)).trans ?_
    refine (zLet_eq (show fn11 [ρ 19] (γ 23) = (0, 0, γ 24) from l23.symm)).trans ?_
    refine (zLet_eq (show _ = γ 24 from rfl)).trans ?_
    refine (if_neg zQ0_).trans ?_
    refine (zLet_eq c25.symm).trans ?_
    refine (zLet_eq (zF1_ok l24)).trans ?_
    refine (zLet_eq c26.symm).trans ?_
    refine (zLet_eq c27.symm).trans ?_
    rfl
  exact zGoo_end hD
theorem vn14_24 {S : Nat → zSpc} (hS6 : ∀ x g o v gz, S 6 x g o v gz → sn6 x g o v gz) (hS8 : ∀ x g o v gz, S 8 x g o v gz → sn8 x g o v gz) (hS11 : ∀ x g o v gz, S 11 x g o v gz → sn11 x g o v gz) {a : List Int} {g : rHp} : ∀ (ρ : Nat → Int) (γ : Nat → rHp), zO 4 S a g q14_24 ρ γ → zGl (fun i vs g1 => jn14 a g i vs g1) (sn14 a g) q14_24 ρ γ := by
  intro ρ γ h
  obtain ⟨ha, hg, hr, hf, hm, hc, hl⟩ := h
  have ha : a = [ρ 0, ρ 1, ρ 2, ρ 3] := ha
  subst ha
  subst hg
  obtain ⟨-, -, -, -, r4, -⟩ := hr
  have r4 : (45 : Int) ≤ ρ 4 ∧ ρ 4 ≤ 45 := r4
  obtain ⟨f0, -⟩ := hf
  have f0 : (0 : Int) ≤ ρ 1 + -ρ 0 + (-9) := f0
  obtain ⟨w_0, w_1, w_2, w_3, w_4, w_5, w_6, w_7, w_8⟩ : (¬ (ρ 4 ≠ 45)) ∧ (0 ≤ ρ 1 + -ρ 0 + (-2)) ∧ (0 ≤ ρ 1 + -ρ 0 + (-3)) ∧ (0 ≤ ρ 1 + -ρ 0 + (-4)) ∧ (0 ≤ ρ 1 + -ρ 0 + (-5)) ∧ (0 ≤ ρ 1 + -ρ 0 + (-6)) ∧ (0 ≤ ρ 1 + -ρ 0 + (-7)) ∧ (0 ≤ ρ 1 + -ρ 0 + (-8)) ∧ (0 ≤ ρ 1 + -ρ 0 + (-9)) := ⟨by omega, by omega, by omega, by omega, by omega, by omega, by omega, by omega, by omega⟩
  obtain ⟨m0, m1, -⟩ := hm
  have m0 : γ 0 15 0 35 = ρ 0 := m0
  have m1 : γ 0 15 0 34 = ρ 1 := m1
  obtain ⟨l0, l1, l2, l3, l4, l5, l6, l7, l8, l9, l10, l11, l12, l13, l14, l15, l16, l17, l18, l19, l20, l21, l22, l23, l24, -⟩ := hl
  have l0 : sn6 [ρ 0, ρ 1] (γ 0) 0 (ρ 4) (γ 1) := hS6 _ _ _ _ _ l0
  have l1 : sn6 [ρ 0 + 1, ρ 1] (γ 1) 0 (ρ 5) (γ 2) := hS6 _ _ _ _ _ l1
  have l2 : sn11 [ρ 5] (γ 2) 0 1 (γ 3) := hS11 _ _ _ _ _ l2
  have l3 : sn6 [ρ 0 + 1, ρ 1] (γ 3) 0 (ρ 6) (γ 4) := hS6 _ _ _ _ _ l3
  have l4 : sn6 [ρ 0 + 2, ρ 1] (γ 4) 0 (ρ 7) (γ 5) := hS6 _ _ _ _ _ l4
  have l5 : sn11 [ρ 7] (γ 5) 0 1 (γ 6) := hS11 _ _ _ _ _ l5
  have l6 : sn6 [ρ 0 + 2, ρ 1] (γ 6) 0 (ρ 8) (γ 7) := hS6 _ _ _ _ _ l6
  have l7 : sn6 [ρ 0 + 3, ρ 1] (γ 7) 0 (ρ 9) (γ 8) := hS6 _ _ _ _ _ l7
  have l8 : sn11 [ρ 9] (γ 8) 0 1 (γ 9) := hS11 _ _ _ _ _ l8
  have l9 : sn6 [ρ 0 + 3, ρ 1] (γ 9) 0 (ρ 10) (γ 10) := hS6 _ _ _ _ _ l9
  have l10 : sn6 [ρ 0 + 4, ρ 1] (γ 10) 0 (ρ 11) (γ 11) := hS6 _ _ _ _ _ l10
  have l11 : sn11 [ρ 11] (γ 11) 0 1 (γ 12) := hS11 _ _ _ _ _ l11
  have l12 : sn6 [ρ 0 + 4, ρ 1] (γ 12) 0 (ρ 12) (γ 13) := hS6 _ _ _ _ _ l12
  have l13 : sn6 [ρ 0 + 5, ρ 1] (γ 13) 0 (ρ 13) (γ 14) := hS6 _ _ _ _ _ l13
  have l14 : sn11 [ρ 13] (γ 14) 0 1 (γ 15) := hS11 _ _ _ _ _ l14
  have l15 : sn6 [ρ 0 + 5, ρ 1] (γ 15) 0 (ρ 14) (γ 16) := hS6 _ _ _ _ _ l15
  have l16 : sn6 [ρ 0 + 6, ρ 1] (γ 16) 0 (ρ 15) (γ 17) := hS6 _ _ _ _ _ l16
  have l17 : sn11 [ρ 15] (γ 17) 0 1 (γ 18) := hS11 _ _ _ _ _ l17
  have l18 : sn6 [ρ 0 + 6, ρ 1] (γ 18) 0 (ρ 16) (γ 19) := hS6 _ _ _ _ _ l18
  have l19 : sn6 [ρ 0 + 7, ρ 1] (γ 19) 0 (ρ 17) (γ 20) := hS6 _ _ _ _ _ l19
  have l20 : sn11 [ρ 17] (γ 20) 0 1 (γ 21) := hS11 _ _ _ _ _ l20
  have l21 : sn6 [ρ 0 + 7, ρ 1] (γ 21) 0 (ρ 18) (γ 22) := hS6 _ _ _ _ _ l21
  have l22 : sn6 [ρ 0 + 8, ρ 1] (γ 22) 0 (ρ 19) (γ 23) := hS6 _ _ _ _ _ l22
  have l23 : sn11 [ρ 19] (γ 23) 0 1 (γ 24) := hS11 _ _ _ _ _ l23
  have l24 : sn6 [ρ 0 + 8, ρ 1] (γ 24) 0 (ρ 20) (γ 25) := hS6 _ _ _ _ _ l24
  show jn14 [ρ 0, ρ 1, ρ 2, ρ 3] (γ 0) 0 [ρ 0, ρ 1, ρ 2, ρ 3, ρ 0 + 9, ρ 20 + (10 * ρ 18 + (100 * ρ 16 + (1000 * ρ 14 + (10000 * ρ 12 + (100000 * ρ 10 + (1000000 * ρ 8 + 10000000 * ρ 6)))))) + (-533333328), ρ 0 + 1, 1] (γ 25)
  have hD : dn14 [] (γ 0) = .inl (0, [ρ 0 + 9, ρ 20 + (10 * ρ 18 + (100 * ρ 16 + (1000 * ρ 14 + (10000 * ρ 12 + (100000 * ρ 10 + (1000000 * ρ 8 + 10000000 * ρ 6)))))) + (-533333328), ρ 0 + 1, 1], γ 25) := by
    unfold dn14
    refine (zLet_eq m0).trans ?_
    refine (zLet_eq m1).trans ?_
    refine (zLet_eq (show fn6 [ρ 0] (γ 0) = (0, ρ 4, γ 1) from l0.symm)).trans ?_
    refine (zLet_eq (show _ = γ 1 from rfl)).trans ?_
    refine (zLet_eq (show _ = ρ 4 from rfl)).trans ?_
    refine (if_neg w_0).trans ?_
    refine (zLet_eq (show fn6 [ρ 0 + 1] (γ 1) = (0, ρ 5, γ 2) from l1.symm)).trans ?_
    refine (zLet_eq (show _ = γ 2 from rfl)).trans ?_
    refine (if_pos w_1).trans ?_
    refine (zLet_eq (show _ = ρ 5 from rfl)).trans ?_
    refine (zLet_eq (show fn11 [ρ 5] (γ 2) = (0, 1, γ 3) from l2.symm)).trans ?_
    refine (zLet_eq (show _ = γ 3 from rfl)).trans ?_
    refine (if_pos zQ1_).trans ?_
    refine (zLet_eq (show fn6 [ρ 0 + 1] (γ 3) = (0, ρ 6, γ 4) from l3.symm)).trans ?_
    refine (zLet_eq (show _ = γ 4 from rfl)).trans ?_
    refine (zLet_eq (show _ = ρ 6 from rfl)).trans ?_
    refine (zLet_eq (show fn6 [ρ 0 + 2] (γ 4) = (0, ρ 7, γ 5) from l4.symm)).trans ?_
    refine (zLet_eq (show _ = γ 5 from rfl)).trans ?_
    refine (if_pos w_2).trans ?_
    refine (zLet_eq (show _ = ρ 7 from rfl)).trans ?_
    refine (zLet_eq (show fn11 [ρ 7] (γ 5) = (0, 1, γ 6) from l5.symm)).trans ?_
    refine (zLet_eq (show _ = γ 6 from rfl)).trans ?_
    refine (if_pos zQ1_).trans ?_
    refine (zLet_eq (show fn6 [ρ 0 + 2] (γ 6) = (0, ρ 8, γ 7) from l6.symm)).trans ?_
    refine (zLet_eq (show _ = γ 7 from rfl)).trans ?_
    refine (zLet_eq (show _ = ρ 8 from rfl)).trans ?_
    refine (zLet_eq (show fn6 [ρ 0 + 3] (γ 7) = (0, ρ 9, γ 8) from l7.symm)).trans ?_
    refine (zLet_eq (show _ = γ 8 from rfl)).trans ?_
    refine (if_pos w_3).trans ?_
    refine (zLet_eq (show _ = ρ 9 from rfl)).trans ?_
    refine (zLet_eq (show fn11 [ρ 9] (γ 8) = (0, 1, γ 9) from l8.symm)).trans ?_
    refine (zLet_eq (show _ = γ 9 from rfl)).trans ?_
    refine (if_pos zQ1_).trans ?_
    refine (zLet_eq (show fn6 [ρ 0 + 3] (γ 9) = (0, ρ 10, γ 10) from l9.symm)).trans ?_
    refine (zLet_eq (show _ = γ 10 from rfl)).trans ?_
    refine (zLet_eq (show _ = ρ 10 from rfl)).trans ?_
    refine (zLet_eq (show fn6 [ρ 0 + 4] (γ 10) = (0, ρ 11, γ 11) from l10.symm)).trans ?_
    refine (zLet_eq (show _ = γ 11 from rfl)).trans ?_
    refine (if_pos w_4).trans ?_
    refine (zLet_eq (show _ = ρ 11 from rfl)).trans ?_
    refine (zLet_eq (show fn11 [ρ 11] (γ 11) = (0, 1, γ 12) from l11.symm)).trans ?_
    refine (zLet_eq (show _ = γ 12 from rfl)).trans ?_
    refine (if_pos zQ1_).trans ?_
    refine (zLet_eq (show fn6 [ρ 0 + 4] (γ 12) = (0, ρ 12, γ 13) from l12.symm)).trans ?_
    refine (zLet_eq (show _ = γ 13 from rfl)).trans ?_
    refine (zLet_eq (show _ = ρ 12 from rfl)).trans ?_
    refine (zLet_eq (show fn6 [ρ 0 + 5] (γ 13) = (0, ρ 13, γ 14) from l13.symm)).trans ?_
    refine (zLet_eq (show _ = γ 14 from rfl)).trans ?_
    refine (if_pos w_5).trans ?_
    refine (zLet_eq (show _ = ρ 13 from rfl)).trans ?_
    refine (zLet_eq (show fn11 [ρ 13] (γ 14) = (0, 1, γ 15) from l14.symm)).trans ?_
    refine (zLet_eq (show _ = γ 15 from rfl)).trans ?_
    refine (if_pos zQ1_).trans ?_
    refine (zLet_eq (show fn6 [ρ 0 + 5] (γ 15) = (0, ρ 14, γ 16) from l15.symm)).trans ?_
    refine (zLet_eq (show _ = γ 16 from rfl)).trans ?_
    refine (zLet_eq (show _ = ρ 14 from rfl)).trans ?_
    refine (zLet_eq (show fn6 [ρ 0 + 6] (γ 16) = (0, ρ 15, γ 17) from l16.symm)).trans ?_
    refine (zLet_eq (show _ = γ 17 from rfl)).trans ?_
    refine (if_pos w_6).trans ?_
    refine (zLet_eq (show _ = ρ 15 from rfl)).trans ?_
    refine (zLet_eq (show fn11 [ρ 15] (γ 17) = (0, 1, γ 18) from l17.symm)).trans ?_
    refine (zLet_eq (show _ = γ 18 from rfl)).trans ?_
    refine (if_pos zQ1_).trans ?_
    refine (zLet_eq (show fn6 [ρ 0 + 6] (γ 18) = (0, ρ 16, γ 19) from l18.symm)).trans ?_
    refine (zLet_eq (show _ = γ 19 from rfl)).trans ?_
    refine (zLet_eq (show _ = ρ 16 from rfl)).trans ?_
    refine (zLet_eq (show fn6 [ρ 0 + 7] (γ 19) = (0, ρ 17, γ 20) from l19.symm)).trans ?_
    refine (zLet_eq (show _ = γ 20 from rfl)).trans ?_
    refine (if_pos w_7).trans ?_
    refine (zLet_eq (show _ = ρ 17 from rfl)).trans ?_
    refine (zLet_eq (show fn11 [ρ 17] (γ 20) = (0, 1, γ 21) from l20.symm)).trans ?_
    refine (zLet_eq (show _ = γ 21 from rfl)).trans ?_
    refine (if_pos zQ1_).trans ?_
    refine (zLet_eq (show fn6 [ρ 0 + 7] (γ 21) = (0, ρ 18, γ 22) from l21.symm)).trans ?_
    refine (zLet_eq (show _ = γ 22 from rfl)).trans ?_
    refine (zLet_eq (show _ = ρ 18 from rfl)).trans ?_
    refine (zLet_eq (show fn6 [ρ 0 + 8] (γ 22) = (0, ρ 19, γ 23) from l22.symm)).trans ?_
    refine (zLet_eq (show _ = γ 23 from rfl)).trans ?_
    refine (if_pos w_8).trans ?_
    refine (zLet_eq (show _ = ρ 19 from rfl)).trans ?_
    refine (zLet_eq (show fn11 [ρ 19] (γ 23) = (0, 1, γ 24) from l23.symm)).trans ?_
    refine (zLet_eq (show _ = γ 24 from rfl)).trans ?_
    refine (if_pos zQ1_).trans ?_
    refine (zLet_eq (show fn6 [ρ 0 + 8] (γ 24) = (0, ρ 20, γ 25) from l24.symm)).trans ?_
    refine (zLet_eq (show _ = γ 25 from rfl)).trans ?_
    refine (zLet_eq (show _ = ρ 20 from rfl)).trans ?_
    rfl
  exact zGoo_to hD
theorem vn14_25 {S : Nat → zSpc} (hS6 : ∀ x g o v gz, S 6 x g o v gz → sn6 x g o v gz) (hS8 : ∀ x g o v gz, S 8 x g o v gz → sn8 x g o v gz) (hS11 : ∀ x g o v gz, S 11 x g o v gz → sn11 x g o v gz) {a : List Int} {g : rHp} : ∀ (ρ : Nat → Int) (γ : Nat → rHp), zO 4 S a g q14_25 ρ γ → zGl (fun i vs g1 => jn14 a g i vs g1) (sn14 a g) q14_25 ρ γ := by
  intro ρ γ h
  obtain ⟨ha, hg, hr, hf, hm, hc, hl⟩ := h
  have ha : a = [ρ 0, ρ 1, ρ 2, ρ 3] := ha
  subst ha
  subst hg
  obtain ⟨-, -, -, -, r4, -⟩ := hr
  have r4 : (45 : Int) ≤ ρ 4 ∧ ρ 4 ≤ 45 := r4
  obtain ⟨f0, f1, -⟩ := hf
  have f0 : (0 : Int) ≤ -ρ 1 + ρ 0 + 8 := f0
  have f1 : (0 : Int) ≤ ρ 1 + -ρ 0 + (-8) := f1
  obtain ⟨w_0, w_1, w_2, w_3, w_4, w_5, w_6, w_7, w_8⟩ : (¬ (ρ 4 ≠ 45)) ∧ (0 ≤ ρ 1 + -ρ 0 + (-2)) ∧ (0 ≤ ρ 1 + -ρ 0 + (-3)) ∧ (0 ≤ ρ 1 + -ρ 0 + (-4)) ∧ (0 ≤ ρ 1 + -ρ 0 + (-5)) ∧ (0 ≤ ρ 1 + -ρ 0 + (-6)) ∧ (0 ≤ ρ 1 + -ρ 0 + (-7)) ∧ (0 ≤ ρ 1 + -ρ 0 + (-8)) ∧ (¬ (0 ≤ ρ 1 + -ρ 0 + (-9))) := ⟨by omega, by omega, by omega, by omega, by omega, by omega, by omega, by omega, by omega⟩
  obtain ⟨m0, m1, -⟩ := hm
  have m0 : γ 0 15 0 35 = ρ 0 := m0
  have m1 : γ 0 15 0 34 = ρ 1 := m1
  obtain ⟨⟨⟨-, c25⟩, c26⟩, c27⟩ := hc
  have c25 : γ 25 = rUp (γ 24) 15 0 35 (ρ 0 + 8) := c25
  have c26 : γ 26 = rUp (γ 25) 15 0 39 (ρ 19) := c26
  have c27 : γ 27 = rUp (γ 26) 15 0 40 0 := c27
  obtain ⟨l0, l1, l2, l3, l4, l5, l6, l7, l8, l9, l10, l11, l12, l13, l14, l15, l16, l17, l18, l19, l20, l21, l22, l23, l24, -⟩ := hl
  have l0 : sn6 [ρ 0, ρ 1] (γ 0) 0 (ρ 4) (γ 1) := hS6 _ _ _ _ _ l0
  have l1 : sn6 [ρ 0 + 1, ρ 1] (γ 1) 0 (ρ 5) (γ 2) := hS6 _ _ _ _ _ l1
  have l2 : sn11 [ρ 5] (γ 2) 0 1 (γ 3) := hS11 _ _ _ _ _ l2
  have l3 : sn6 [ρ 0 + 1, ρ 1] (γ 3) 0 (ρ 6) (γ 4) := hS6 _ _ _ _ _ l3
  have l4 : sn6 [ρ 0 + 2, ρ 1] (γ 4) 0 (ρ 7) (γ 5) := hS6 _ _ _ _ _ l4
  have l5 : sn11 [ρ 7] (γ 5) 0 1 (γ 6) := hS11 _ _ _ _ _ l5
  have l6 : sn6 [ρ 0 + 2, ρ 1] (γ 6) 0 (ρ 8) (γ 7) := hS6 _ _ _ _ _ l6
  have l7 : sn6 [ρ 0 + 3, ρ 1] (γ 7) 0 (ρ 9) (γ 8) := hS6 _ _ _ _ _ l7
  have l8 : sn11 [ρ 9] (γ 8) 0 1 (γ 9) := hS11 _ _ _ _ _ l8
  have l9 : sn6 [ρ 0 + 3, ρ 1] (γ 9) 0 (ρ 10) (γ 10) := hS6 _ _ _ _ _ l9
  have l10 : sn6 [ρ 0 + 4, ρ 1] (γ 10) 0 (ρ 11) (γ 11) := hS6 _ _ _ _ _ l10
  have l11 : sn11 [ρ 11] (γ 11) 0 1 (γ 12) := hS11 _ _ _ _ _ l11
  have l12 : sn6 [ρ 0 + 4, ρ 1] (γ 12) 0 (ρ 12) (γ 13) := hS6 _ _ _ _ _ l12
  have l13 : sn6 [ρ 0 + 5, ρ 1] (γ 13) 0 (ρ 13) (γ 14) := hS6 _ _ _ _ _ l13
  have l14 : sn11 [ρ 13] (γ 14) 0 1 (γ 15) := hS11 _ _ _ _ _ l14
  have l15 : sn6 [ρ 0 + 5, ρ 1] (γ 15) 0 (ρ 14) (γ 16) := hS6 _ _ _ _ _ l15
  have l16 : sn6 [ρ 0 + 6, ρ 1] (γ 16) 0 (ρ 15) (γ 17) := hS6 _ _ _ _ _ l16
  have l17 : sn11 [ρ 15] (γ 17) 0 1 (γ 18) := hS11 _ _ _ _ _ l17
  have l18 : sn6 [ρ 0 + 6, ρ 1] (γ 18) 0 (ρ 16) (γ 19) := hS6 _ _ _ _ _ l18
  have l19 : sn6 [ρ 0 + 7, ρ 1] (γ 19) 0 (ρ 17) (γ 20) := hS6 _ _ _ _ _ l19
  have l20 : sn11 [ρ 17] (γ 20) 0 1 (γ 21) := hS11 _ _ _ _ _ l20
  have l21 : sn6 [ρ 0 + 7, ρ 1] (γ 21) 0 (ρ 18) (γ 22) := hS6 _ _ _ _ _ l21
  have l22 : sn6 [ρ 0 + 8, ρ 1] (γ 22) 0 (-1) (γ 23) := hS6 _ _ _ _ _ l22
  have l23 : sn11 [(-1)] (γ 23) 0 0 (γ 24) := hS11 _ _ _ _ _ l23
  have l24 : zOpP (.lneg) (γ 0) (γ 1) [ρ 18 + (10 * ρ 16 + (100 * ρ 14 + (1000 * ρ 12 + (10000 * ρ 10 + (100000 * ρ 8 + 1000000 * ρ 6))))) + (-53333328)] (ρ 19) := l24
  show sn14 [ρ 0, ρ 1, ρ 2, ρ 3] (γ 0) 0 1 (γ 27)
  have hD : dn14 [] (γ 0) = .inr (0, 1, γ 27) := by
    unfold dn14
    refine (zLet_eq m0).trans ?_
    refine (zLet_eq m1).trans ?_
    refine (zLet_eq (show fn6 [ρ 0] (γ 0) = (0, ρ 4, γ 1) from l0.symm)).trans ?_
    refine (zLet_eq (show _ = γ 1 from rfl)).trans ?_
    refine (zLet_eq (show _ = ρ 4 from rfl)).trans ?_
    refine (if_neg w_0).trans ?_
    refine (zLet_eq (show fn6 [ρ 0 + 1] (γ 1) = (0, ρ 5, γ 2) from l1.symm)).trans ?_
    refine (zLet_eq (show _ = γ 2 from rfl)).trans ?_
    refine (if_pos w_1).trans ?_
    refine (zLet_eq (show _ = ρ 5 from rfl)).trans ?_
    refine (zLet_eq (show fn11 [ρ 5] (γ 2) = (0, 1, γ 3) from l2.symm)).trans ?_
    refine (zLet_eq (show _ = γ 3 from rfl)).trans ?_
    refine (if_pos zQ1_).trans ?_
    refine (zLet_eq (show fn6 [ρ 0 + 1] (γ 3) = (0, ρ 6, γ 4) from l3.symm)).trans ?_
    refine (zLet_eq (show _ = γ 4 from rfl)).trans ?_
    refine (zLet_eq (show _ = ρ 6 from rfl)).trans ?_
    refine (zLet_eq (show fn6 [ρ 0 + 2] (γ 4) = (0, ρ 7, γ 5) from l4.symm)).trans ?_
    refine (zLet_eq (show _ = γ 5 from rfl)).trans ?_
    refine (if_pos w_2).trans ?_
    refine (zLet_eq (show _ = ρ 7 from rfl)).trans ?_
    refine (zLet_eq (show fn11 [ρ 7] (γ 5) = (0, 1, γ 6) from l5.symm)).trans ?_
    refine (zLet_eq (show _ = γ 6 from rfl)).trans ?_
    refine (if_pos zQ1_).trans ?_
    refine (zLet_eq (show fn6 [ρ 0 + 2] (γ 6) = (0, ρ 8, γ 7) from l6.symm)).trans ?_
    refine (zLet_eq (show _ = γ 7 from rfl)).trans ?_
    refine (zLet_eq (show _ = ρ 8 from rfl)).trans ?_
    refine (zLet_eq (show fn6 [ρ 0 + 3] (γ 7) = (0, ρ 9, γ 8) from l7.symm)).trans ?_
    refine (zLet_eq (show _ = γ 8 from rfl)).trans ?_
    refine (if_pos w_3).trans ?_
    refine (zLet_eq (show _ = ρ 9 from rfl)).trans ?_
    refine (zLet_eq (show fn11 [ρ 9] (γ 8) = (0, 1, γ 9) from l8.symm)).trans ?_
    refine (zLet_eq (show _ = γ 9 from rfl)).trans ?_
    refine (if_pos zQ1_).trans ?_
    refine (zLet_eq (show fn6 [ρ 0 + 3] (γ 9) = (0, ρ 10, γ 10) from l9.symm)).trans ?_
    refine (zLet_eq (show _ = γ 10 from rfl)).trans ?_
    refine (zLet_eq (show _ = ρ 10 from rfl)).trans ?_
    refine (zLet_eq (show fn6 [ρ 0 + 4] (γ 10) = (0, ρ 11, γ 11) from l10.symm)).trans ?_
    refine (zLet_eq (show _ = γ 11 from rfl)).trans ?_
    refine (if_pos w_4).trans ?_
    refine (zLet_eq (show _ = ρ 11 from rfl)).trans ?_
    refine (zLet_eq (show fn11 [ρ 11] (γ 11) = (0, 1, γ 12) from l11.symm)).trans ?_
    refine (zLet_eq (show _ = γ 12 from rfl)).trans ?_
    refine (if_pos zQ1_).trans ?_
    refine (zLet_eq (show fn6 [ρ 0 + 4] (γ 12) = (0, ρ 12, γ 13) from l12.symm)).trans ?_
    refine (zLet_eq (show _ = γ 13 from rfl)).trans ?_
    refine (zLet_eq (show _ = ρ 12 from rfl)).trans ?_
    refine (zLet_eq (show fn6 [ρ 0 + 5] (γ 13) = (0, ρ 13, γ 14) from l13.symm)).trans ?_
    refine (zLet_eq (show _ = γ 14 from rfl)).trans ?_
    refine (if_pos w_5).trans ?_
    refine (zLet_eq (show _ = ρ 13 from rfl)).trans ?_
    refine (zLet_eq (show fn11 [ρ 13] (γ 14) = (0, 1, γ 15) from l14.symm)).trans ?_
    refine (zLet_eq (show _ = γ 15 from rfl)).trans ?_
    refine (if_pos zQ1_).trans ?_
    refine (zLet_eq (show fn6 [ρ 0 + 5] (γ 15) = (0, ρ 14, γ 16) from l15.symm)).trans ?_
    refine (zLet_eq (show _ = γ 16 from rfl)).trans ?_
    refine (zLet_eq (show _ = ρ 14 from rfl)).trans ?_
    refine (zLet_eq (show fn6 [ρ 0 + 6] (γ 16) = (0, ρ 15, γ 17) from l16.symm)).trans ?_
    refine (zLet_eq (show _ = γ 17 from rfl)).trans ?_
    refine (if_pos w_6).trans ?_
    refine (zLet_eq (show _ = ρ 15 from rfl)).trans ?_
    refine (zLet_eq (show fn11 [ρ 15] (γ 17) = (0, 1, γ 18) from l17.symm)).trans ?_
    refine (zLet_eq (show _ = γ 18 from rfl)).trans ?_
    refine (if_pos zQ1_).trans ?_
    refine (zLet_eq (show fn6 [ρ 0 + 6] (γ 18) = (0, ρ 16, γ 19) from l18.symm)).trans ?_
    refine (zLet_eq (show _ = γ 19 from rfl)).trans ?_
    refine (zLet_eq (show _ = ρ 16 from rfl)).trans ?_
    refine (zLet_eq (show fn6 [ρ 0 + 7] (γ 19) = (0, ρ 17, γ 20) from l19.symm)).trans ?_
    refine (zLet_eq (show _ = γ 20 from rfl)).trans ?_
    refine (if_pos w_7).trans ?_
    refine (zLet_eq (show _ = ρ 17 from rfl)).trans ?_
    refine (zLet_eq (show fn11 [ρ 17] (γ 20) = (0, 1, γ 21) from l20.symm)).trans ?_
    refine (zLet_eq (show _ = γ 21 from rfl)).trans ?_
    refine (if_pos zQ1_).trans ?_
    refine (zLet_eq (show fn6 [ρ 0 + 7] (γ 21) = (0, ρ 18, γ 22) from l21.symm)).trans ?_
    refine (zLet_eq (show _ = γ 22 from rfl)).trans ?_
    refine (zLet_eq (show _ = ρ 18 from rfl)).trans ?_
    refine (zLet_eq (show fn6 [ρ 0 + 8] (γ 22) = (0, (-1), γ 23) from l22.symm)).trans ?_
    refine (zLet_eq (show _ = γ 23 from rfl)).trans ?_
    refine (if_neg w_8).trans ?_
    refine (zLet_eq (show fn11 [(-1)] (γ 23) = (0, 0, γ 24) from l23.symm)).trans ?_
    refine (zLet_eq (show _ = γ 24 from rfl)).trans ?_
    refine (zLet_eq c25.symm).trans ?_
    refine (zLet_eq (zF1_ok l24)).trans ?_
    refine (zLet_eq c26.symm).trans ?_
    refine (zLet_eq c27.symm).trans ?_
    rfl
  exact zGoo_end hD
theorem vn14_26 {S : Nat → zSpc} (hS6 : ∀ x g o v gz, S 6 x g o v gz → sn6 x g o v gz) (hS8 : ∀ x g o v gz, S 8 x g o v gz → sn8 x g o v gz) (hS11 : ∀ x g o v gz, S 11 x g o v gz → sn11 x g o v gz) {a : List Int} {g : rHp} : ∀ (ρ : Nat → Int) (γ : Nat → rHp), zO 4 S a g q14_26 ρ γ → zGl (fun i vs g1 => jn14 a g i vs g1) (sn14 a g) q14_26 ρ γ := by
  intro ρ γ h
  obtain ⟨ha, hg, hr, hf, hm, hc, hl⟩ := h
  have ha : a = [ρ 0, ρ 1, ρ 2, ρ 3] := ha
  subst ha
  subst hg
  obtain ⟨-, -, -, -, r4, -⟩ := hr
  have r4 : (45 : Int) ≤ ρ 4 ∧ ρ 4 ≤ 45 := r4
  obtain ⟨f0, f1, -⟩ := hf
  have f0 : (0 : Int) ≤ -ρ 1 + ρ 0 + 7 := f0
  have f1 : (0 : Int) ≤ ρ 1 + -ρ 0 + (-7) := f1
  obtain ⟨w_0, w_1, w_2, w_3, w_4, w_5, w_6, w_7⟩ : (¬ (ρ 4 ≠ 45)) ∧ (0 ≤ ρ 1 + -ρ 0 + (-2)) ∧ (0 ≤ ρ 1 + -ρ 0 + (-3)) ∧ (0 ≤ ρ 1 + -ρ 0 + (-4)) ∧ (0 ≤ ρ 1 + -ρ 0 + (-5)) ∧ (0 ≤ ρ 1 + -ρ 0 + (-6)) ∧ (0 ≤ ρ 1 + -ρ 0 + (-7)) ∧ (¬ (0 ≤ ρ 1 + -ρ 0 + (-8))) := ⟨by omega, by omega, by omega, by omega, by omega, by omega, by omega, by omega⟩
  obtain ⟨m0, m1, -⟩ := hm
  have m0 : γ 0 15 0 35 = ρ 0 := m0
  have m1 : γ 0 15 0 34 = ρ 1 := m1
  obtain ⟨⟨⟨-, c22⟩, c23⟩, c24⟩ := hc
  have c22 : γ 22 = rUp (γ 21) 15 0 35 (ρ 0 + 7) := c22
  have c23 : γ 23 = rUp (γ 22) 15 0 39 (ρ 17) := c23
  have c24 : γ 24 = rUp (γ 23) 15 0 40 0 := c24
  obtain ⟨l0, l1, l2, l3, l4, l5, l6, l7, l8, l9, l10, l11, l12, l13, l14, l15, l16, l17, l18, l19, l20, l21, -⟩ := hl
  have l0 : sn6 [ρ 0, ρ 1] (γ 0) 0 (ρ 4) (γ 1) := hS6 _ _ _ _ _ l0
  have l1 : sn6 [ρ 0 + 1, ρ 1] (γ 1) 0 (ρ 5) (γ 2) := hS6 _ _ _ _ _ l1
  have l2 : sn11 [ρ 5] (γ 2) 0 1 (γ 3) := hS11 _ _ _ _ _ l2
  have l3 : sn6 [ρ 0 + 1, ρ 1] (γ 3) 0 (ρ 6) (γ 4) := hS6 _ _ _ _ _ l3
  have l4 : sn6 [ρ 0 + 2, ρ 1] (γ 4) 0 (ρ 7) (γ 5) := hS6 _ _ _ _ _ l4
  have l5 : sn11 [ρ 7] (γ 5) 0 1 (γ 6) := hS11 _ _ _ _ _ l5
  have l6 : sn6 [ρ 0 + 2, ρ 1] (γ 6) 0 (ρ 8) (γ 7) := hS6 _ _ _ _ _ l6
  have l7 : sn6 [ρ 0 + 3, ρ 1] (γ 7) 0 (ρ 9) (γ 8) := hS6 _ _ _ _ _ l7
  have l8 : sn11 [ρ 9] (γ 8) 0 1 (γ 9) := hS11 _ _ _ _ _ l8
  have l9 : sn6 [ρ 0 + 3, ρ 1] (γ 9) 0 (ρ 10) (γ 10) := hS6 _ _ _ _ _ l9
  have l10 : sn6 [ρ 0 + 4, ρ 1] (γ 10) 0 (ρ 11) (γ 11) := hS6 _ _ _ _ _ l10
  have l11 : sn11 [ρ 11] (γ 11) 0 1 (γ 12) := hS11 _ _ _ _ _ l11
  have l12 : sn6 [ρ 0 + 4, ρ 1] (γ 12) 0 (ρ 12) (γ 13) := hS6 _ _ _ _ _ l12
  have l13 : sn6 [ρ 0 + 5, ρ 1] (γ 13) 0 (ρ 13) (γ 14) := hS6 _ _ _ _ _ l13
  have l14 : sn11 [ρ 13] (γ 14) 0 1 (γ 15) := hS11 _ _ _ _ _ l14
  have l15 : sn6 [ρ 0 + 5, ρ 1] (γ 15) 0 (ρ 14) (γ 16) := hS6 _ _ _ _ _ l15
  have l16 : sn6 [ρ 0 + 6, ρ 1] (γ 16) 0 (ρ 15) (γ 17) := hS6 _ _ _ _ _ l16
  have l17 : sn11 [ρ 15] (γ 17) 0 1 (γ 18) := hS11 _ _ _ _ _ l17
  have l18 : sn6 [ρ 0 + 6, ρ 1] (γ 18) 0 (ρ 16) (γ 19) := hS6 _ _ _ _ _ l18
  have l19 : sn6 [ρ 0 + 7, ρ 1] (γ 19) 0 (-1) (γ 20) := hS6 _ _ _ _ _ l19
  have l20 : sn11 [(-1)] (γ 20) 0 0 (γ 21) := hS11 _ _ _ _ _ l20
  have l21 : zOpP (.lneg) (γ 0) (γ 1) [ρ 16 + (10 * ρ 14 + (100 * ρ 12 + (1000 * ρ 10 + (10000 * ρ 8 + 100000 * ρ 6)))) + (-5333328)] (ρ 17) := l21
  show sn14 [ρ 0, ρ 1, ρ 2, ρ 3] (γ 0) 0 1 (γ 24)
  have hD : dn14 [] (γ 0) = .inr (0, 1, γ 24) := by
    unfold dn14
    refine (zLet_eq m0).trans ?_
    refine (zLet_eq m1).trans ?_
    refine (zLet_eq (show fn6 [ρ 0] (γ 0) = (0, ρ 4, γ 1) from l0.symm)).trans ?_
    refine (zLet_eq (show _ = γ 1 from rfl)).trans ?_
    refine (zLet_eq (show _ = ρ 4 from rfl)).trans ?_
    refine (if_neg w_0).trans ?_
    refine (zLet_eq (show fn6 [ρ 0 + 1] (γ 1) = (0, ρ 5, γ 2) from l1.symm)).trans ?_
    refine (zLet_eq (show _ = γ 2 from rfl)).trans ?_
    refine (if_pos w_1).trans ?_
    refine (zLet_eq (show _ = ρ 5 from rfl)).trans ?_
    refine (zLet_eq (show fn11 [ρ 5] (γ 2) = (0, 1, γ 3) from l2.symm)).trans ?_
    refine (zLet_eq (show _ = γ 3 from rfl)).trans ?_
    refine (if_pos zQ1_).trans ?_
    refine (zLet_eq (show fn6 [ρ 0 + 1] (γ 3) = (0, ρ 6, γ 4) from l3.symm)).trans ?_
    refine (zLet_eq (show _ = γ 4 from rfl)).trans ?_
    refine (zLet_eq (show _ = ρ 6 from rfl)).trans ?_
    refine (zLet_eq (show fn6 [ρ 0 + 2] (γ 4) = (0, ρ 7, γ 5) from l4.symm)).trans ?_
    refine (zLet_eq (show _ = γ 5 from rfl)).trans ?_
    refine (if_pos w_2).trans ?_
    refine (zLet_eq (show _ = ρ 7 from rfl)).trans ?_
    refine (zLet_eq (show fn11 [ρ 7] (γ 5) = (0, 1, γ 6) from l5.symm)).trans ?_
    refine (zLet_eq (show _ = γ 6 from rfl)).trans ?_
    refine (if_pos zQ1_).trans ?_
    refine (zLet_eq (show fn6 [ρ 0 + 2] (γ 6) = (0, ρ 8, γ 7) from l6.symm)).trans ?_
    refine (zLet_eq (show _ = γ 7 from rfl)).trans ?_
    refine (zLet_eq (show _ = ρ 8 from rfl)).trans ?_
    refine (zLet_eq (show fn6 [ρ 0 + 3] (γ 7) = (0, ρ 9, γ 8) from l7.symm)).trans ?_
    refine (zLet_eq (show _ = γ 8 from rfl)).trans ?_
    refine (if_pos w_3).trans ?_
    refine (zLet_eq (show _ = ρ 9 from rfl)).trans ?_
    refine (zLet_eq (show fn11 [ρ 9] (γ 8) = (0, 1, γ 9) from l8.symm)).trans ?_
    refine (zLet_eq (show _ = γ 9 from rfl)).trans ?_
    refine (if_pos zQ1_).trans ?_
    refine (zLet_eq (show fn6 [ρ 0 + 3] (γ 9) = (0, ρ 10, γ 10) from l9.symm)).trans ?_
    refine (zLet_eq (show _ = γ 10 from rfl)).trans ?_
    refine (zLet_eq (show _ = ρ 10 from rfl)).trans ?_
    refine (zLet_eq (show fn6 [ρ 0 + 4] (γ 10) = (0, ρ 11, γ 11) from l10.symm)).trans ?_
    refine (zLet_eq (show _ = γ 11 from rfl)).trans ?_
    refine (if_pos w_4).trans ?_
    refine (zLet_eq (show _ = ρ 11 from rfl)).trans ?_
    refine (zLet_eq (show fn11 [ρ 11] (γ 11) = (0, 1, γ 12) from l11.symm)).trans ?_
    refine (zLet_eq (show _ = γ 12 from rfl)).trans ?_
    refine (if_pos zQ1_).trans ?_
    refine (zLet_eq (show fn6 [ρ 0 + 4] (γ 12) = (0, ρ 12, γ 13) from l12.symm)).trans ?_
    refine (zLet_eq (show _ = γ 13 from rfl)).trans ?_
    refine (zLet_eq (show _ = ρ 12 from rfl)).trans ?_
    refine (zLet_eq (show fn6 [ρ 0 + 5] (γ 13) = (0, ρ 13, γ 14) from l13.symm)).trans ?_
    refine (zLet_eq (show _ = γ 14 from rfl)).trans ?_
    refine (if_pos w_5).trans ?_
    refine (zLet_eq (show _ = ρ 13 from rfl)).trans ?_
    refine (zLet_eq (show fn11 [ρ 13] (γ 14) = (0, 1, γ 15) from l14.symm)).trans ?_
    refine (zLet_eq (show _ = γ 15 from rfl)).trans ?_
    refine (if_pos zQ1_).trans ?_
    refine (zLet_eq (show fn6 [ρ 0 + 5] (γ 15) = (0, ρ 14, γ 16) from l15.symm)).trans ?_
    refine (zLet_eq (show _ = γ 16 from rfl)).trans ?_
    refine (zLet_eq (show _ = ρ 14 from rfl)).trans ?_
    refine (zLet_eq (show fn6 [ρ 0 + 6] (γ 16) = (0, ρ 15, γ 17) from l16.symm)).trans ?_
    refine (zLet_eq (show _ = γ 17 from rfl)).trans ?_
    refine (if_pos w_6).trans ?_
    refine (zLet_eq (show _ = ρ 15 from rfl)).trans ?_
    refine (zLet_eq (show fn11 [ρ 15] (γ 17) = (0, 1, γ 18) from l17.symm)).trans ?_
    refine (zLet_eq (show _ = γ 18 from rfl)).trans ?_
    refine (if_pos zQ1_).trans ?_
    refine (zLet_eq (show fn6 [ρ 0 + 6] (γ 18) = (0, ρ 16, γ 19) from l18.symm)).trans ?_
    refine (zLet_eq (show _ = γ 19 from rfl)).trans ?_
    refine (zLet_eq (show _ = ρ 16 from rfl)).trans ?_
    refine (zLet_eq (show fn6 [ρ 0 + 7] (γ 19) = (0, (-1), γ 20) from l19.symm)).trans ?_
    refine (zLet_eq (show _ = γ 20 from rfl)).trans ?_
    refine (if_neg w_7).trans ?_
    refine (zLet_eq (show fn11 [(-1)] (γ 20) = (0, 0, γ 21) from l20.symm)).trans ?_
    refine (zLet_eq (show _ = γ 21 from rfl)).trans ?_
    refine (zLet_eq c22.symm).trans ?_
    refine (zLet_eq (zF1_ok l21)).trans ?_
    refine (zLet_eq c23.symm).trans ?_
    refine (zLet_eq c24.symm).trans ?_
    rfl
  exact zGoo_end hD
theorem vn14_27 {S : Nat → zSpc} (hS6 : ∀ x g o v gz, S 6 x g o v gz → sn6 x g o v gz) (hS8 : ∀ x g o v gz, S 8 x g o v gz → sn8 x g o v gz) (hS11 : ∀ x g o v gz, S 11 x g o v gz → sn11 x g o v gz) {a : List Int} {g : rHp} : ∀ (ρ : Nat → Int) (γ : Nat → rHp), zO 4 S a g q14_27 ρ γ → zGl (fun i vs g1 => jn14 a g i vs g1) (sn14 a g) q14_27 ρ γ := by
  intro ρ γ h
  obtain ⟨ha, hg, hr, hf, hm, hc, hl⟩ := h
  have ha : a = [ρ 0, ρ 1, ρ 2, ρ 3] := ha
  subst ha
  subst hg
  obtain ⟨-, -, -, -, r4, -⟩ := hr
  have r4 : (45 : Int) ≤ ρ 4 ∧ ρ 4 ≤ 45 := r4
  obtain ⟨f0, f1, -⟩ := hf
  have f0 : (0 : Int) ≤ -ρ 1 + ρ 0 + 6 := f0
  have f1 : (0 : Int) ≤ ρ 1 + -ρ 0 + (-6) := f1
  obtain ⟨w_0, w_1, w_2, w_3, w_4, w_5, w_6⟩ : (¬ (ρ 4 ≠ 45)) ∧ (0 ≤ ρ 1 + -ρ 0 + (-2)) ∧ (0 ≤ ρ 1 + -ρ 0 + (-3)) ∧ (0 ≤ ρ 1 + -ρ 0 + (-4)) ∧ (0 ≤ ρ 1 + -ρ 0 + (-5)) ∧ (0 ≤ ρ 1 + -ρ 0 + (-6)) ∧ (¬ (0 ≤ ρ 1 + -ρ 0 + (-7))) := ⟨by omega, by omega, by omega, by omega, by omega, by omega, by omega⟩
  obtain ⟨m0, m1, -⟩ := hm
  have m0 : γ 0 15 0 35 = ρ 0 := m0
  have m1 : γ 0 15 0 34 = ρ 1 := m1
  obtain ⟨⟨⟨-, c19⟩, c20⟩, c21⟩ := hc
  have c19 : γ 19 = rUp (γ 18) 15 0 35 (ρ 0 + 6) := c19
  have c20 : γ 20 = rUp (γ 19) 15 0 39 (ρ 15) := c20
  have c21 : γ 21 = rUp (γ 20) 15 0 40 0 := c21
  obtain ⟨l0, l1, l2, l3, l4, l5, l6, l7, l8, l9, l10, l11, l12, l13, l14, l15, l16, l17, l18, -⟩ := hl
  have l0 : sn6 [ρ 0, ρ 1] (γ 0) 0 (ρ 4) (γ 1) := hS6 _ _ _ _ _ l0
  have l1 : sn6 [ρ 0 + 1, ρ 1] (γ 1) 0 (ρ 5) (γ 2) := hS6 _ _ _ _ _ l1
  have l2 : sn11 [ρ 5] (γ 2) 0 1 (γ 3) := hS11 _ _ _ _ _ l2
  have l3 : sn6 [ρ 0 + 1, ρ 1] (γ 3) 0 (ρ 6) (γ 4) := hS6 _ _ _ _ _ l3
  have l4 : sn6 [ρ 0 + 2, ρ 1] (γ 4) 0 (ρ 7) (γ 5) := hS6 _ _ _ _ _ l4
  have l5 : sn11 [ρ 7] (γ 5) 0 1 (γ 6) := hS11 _ _ _ _ _ l5
  have l6 : sn6 [ρ 0 + 2, ρ 1] (γ 6) 0 (ρ 8) (γ 7) := hS6 _ _ _ _ _ l6
  have l7 : sn6 [ρ 0 + 3, ρ 1] (γ 7) 0 (ρ 9) (γ 8) := hS6 _ _ _ _ _ l7
  have l8 : sn11 [ρ 9] (γ 8) 0 1 (γ 9) := hS11 _ _ _ _ _ l8
  have l9 : sn6 [ρ 0 + 3, ρ 1] (γ 9) 0 (ρ 10) (γ 10) := hS6 _ _ _ _ _ l9
  have l10 : sn6 [ρ 0 + 4, ρ 1] (γ 10) 0 (ρ 11) (γ 11) := hS6 _ _ _ _ _ l10
  have l11 : sn11 [ρ 11] (γ 11) 0 1 (γ 12) := hS11 _ _ _ _ _ l11
  have l12 : sn6 [ρ 0 + 4, ρ 1] (γ 12) 0 (ρ 12) (γ 13) := hS6 _ _ _ _ _ l12
  have l13 : sn6 [ρ 0 + 5, ρ 1] (γ 13) 0 (ρ 13) (γ 14) := hS6 _ _ _ _ _ l13
  have l14 : sn11 [ρ 13] (γ 14) 0 1 (γ 15) := hS11 _ _ _ _ _ l14
  have l15 : sn6 [ρ 0 + 5, ρ 1] (γ 15) 0 (ρ 14) (γ 16) := hS6 _ _ _ _ _ l15
  have l16 : sn6 [ρ 0 + 6, ρ 1] (γ 16) 0 (-1) (γ 17) := hS6 _ _ _ _ _ l16
  have l17 : sn11 [(-1)] (γ 17) 0 0 (γ 18) := hS11 _ _ _ _ _ l17
  have l18 : zOpP (.lneg) (γ 0) (γ 1) [ρ 14 + (10 * ρ 12 + (100 * ρ 10 + (1000 * ρ 8 + 10000 * ρ 6))) + (-533328)] (ρ 15) := l18
  show sn14 [ρ 0, ρ 1, ρ 2, ρ 3] (γ 0) 0 1 (γ 21)
  have hD : dn14 [] (γ 0) = .inr (0, 1, γ 21) := by
    unfold dn14
    refine (zLet_eq m0).trans ?_
    refine (zLet_eq m1).trans ?_
    refine (zLet_eq (show fn6 [ρ 0] (γ 0) = (0, ρ 4, γ 1) from l0.symm)).trans ?_
    refine (zLet_eq (show _ = γ 1 from rfl)).trans ?_
    refine (zLet_eq (show _ = ρ 4 from rfl)).trans ?_
    refine (if_neg w_0).trans ?_
    refine (zLet_eq (show fn6 [ρ 0 + 1] (γ 1) = (0, ρ 5, γ 2) from l1.symm)).trans ?_
    refine (zLet_eq (show _ = γ 2 from rfl)).trans ?_
    refine (if_pos w_1).trans ?_
    refine (zLet_eq (show _ = ρ 5 from rfl)).trans ?_
    refine (zLet_eq (show fn11 [ρ 5] (γ 2) = (0, 1, γ 3) from l2.symm)).trans ?_
    refine (zLet_eq (show _ = γ 3 from rfl)).trans ?_
    refine (if_pos zQ1_).trans ?_
    refine (zLet_eq (show fn6 [ρ 0 + 1] (γ 3) = (0, ρ 6, γ 4) from l3.symm)).trans ?_
    refine (zLet_eq (show _ = γ 4 from rfl)).trans ?_
    refine (zLet_eq (show _ = ρ 6 from rfl)).trans ?_
    refine (zLet_eq (show fn6 [ρ 0 + 2] (γ 4) = (0, ρ 7, γ 5) from l4.symm)).trans ?_
    refine (zLet_eq (show _ = γ 5 from rfl)).trans ?_
    refine (if_pos w_2).trans ?_
    refine (zLet_eq (show _ = ρ 7 from rfl)).trans ?_
    refine (zLet_eq (show fn11 [ρ 7] (γ 5) = (0, 1, γ 6) from l5.symm)).trans ?_
    refine (zLet_eq (show _ = γ 6 from rfl)).trans ?_
    refine (if_pos zQ1_).trans ?_
    refine (zLet_eq (show fn6 [ρ 0 + 2] (γ 6) = (0, ρ 8, γ 7) from l6.symm)).trans ?_
    refine (zLet_eq (show _ = γ 7 from rfl)).trans ?_
    refine (zLet_eq (show _ = ρ 8 from rfl)).trans ?_
    refine (zLet_eq (show fn6 [ρ 0 + 3] (γ 7) = (0, ρ 9, γ 8) from l7.symm)).trans ?_
    refine (zLet_eq (show _ = γ 8 from rfl)).trans ?_
    refine (if_pos w_3).trans ?_
    refine (zLet_eq (show _ = ρ 9 from rfl)).trans ?_
    refine (zLet_eq (show fn11 [ρ 9] (γ 8) = (0, 1, γ 9) from l8.symm)).trans ?_
    refine (zLet_eq (show _ = γ 9 from rfl)).trans ?_
    refine (if_pos zQ1_).trans ?_
    refine (zLet_eq (show fn6 [ρ 0 + 3] (γ 9) = (0, ρ 10, γ 10) from l9.symm)).trans ?_
    refine (zLet_eq (show _ = γ 10 from rfl)).trans ?_
    refine (zLet_eq (show _ = ρ 10 from rfl)).trans ?_
    refine (zLet_eq (show fn6 [ρ 0 + 4] (γ 10) = (0, ρ 11, γ 11) from l10.symm)).trans ?_
    refine (zLet_eq (show _ = γ 11 from rfl)).trans ?_
    refine (if_pos w_4).trans ?_
    refine (zLet_eq (show _ = ρ 11 from rfl)).trans ?_
    refine (zLet_eq (show fn11 [ρ 11] (γ 11) = (0, 1, γ 12) from l11.symm)).trans ?_
    refine (zLet_eq (show _ = γ 12 from rfl)).trans ?_
    refine (if_pos zQ1_).trans ?_
    refine (zLet_eq (show fn6 [ρ 0 + 4] (γ 12) = (0, ρ 12, γ 13) from l12.symm)).trans ?_
    refine (zLet_eq (show _ = γ 13 from rfl)).trans ?_
    refine (zLet_eq (show _ = ρ 12 from rfl)).trans ?_
    refine (zLet_eq (show fn6 [ρ 0 + 5] (γ 13) = (0, ρ 13, γ 14) from l13.symm)).trans ?_
    refine (zLet_eq (show _ = γ 14 from rfl)).trans ?_
    refine (if_pos w_5).trans ?_
    refine (zLet_eq (show _ = ρ 13 from rfl)).trans ?_
    refine (zLet_eq (show fn11 [ρ 13] (γ 14) = (0, 1, γ 15) from l14.symm)).trans ?_
    refine (zLet_eq (show _ = γ 15 from rfl)).trans ?_
    refine (if_pos zQ1_).trans ?_
    refine (zLet_eq (show fn6 [ρ 0 + 5] (γ 15) = (0, ρ 14, γ 16) from l15.symm)).trans ?_
    refine (zLet_eq (show _ = γ 16 from rfl)).trans ?_
    refine (zLet_eq (show _ = ρ 14 from rfl)).trans ?_
    refine (zLet_eq (show fn6 [ρ 0 + 6] (γ 16) = (0, (-1), γ 17) from l16.symm)).trans ?_
    refine (zLet_eq (show _ = γ 17 from rfl)).trans ?_
    refine (if_neg w_6).trans ?_
    refine (zLet_eq (show fn11 [(-1)] (γ 17) = (0, 0, γ 18) from l17.symm)).trans ?_
    refine (zLet_eq (show _ = γ 18 from rfl)).trans ?_
    refine (zLet_eq c19.symm).trans ?_
    refine (zLet_eq (zF1_ok l18)).trans ?_
    refine (zLet_eq c20.symm).trans ?_
    refine (zLet_eq c21.symm).trans ?_
    rfl
  exact zGoo_end hD
theorem vn14_28 {S : Nat → zSpc} (hS6 : ∀ x g o v gz, S 6 x g o v gz → sn6 x g o v gz) (hS8 : ∀ x g o v gz, S 8 x g o v gz → sn8 x g o v gz) (hS11 : ∀ x g o v gz, S 11 x g o v gz → sn11 x g o v gz) {a : List Int} {g : rHp} : ∀ (ρ : Nat → Int) (γ : Nat → rHp), zO 4 S a g q14_28 ρ γ → zGl (fun i vs g1 => jn14 a g i vs g1) (sn14 a g) q14_28 ρ γ := by
  intro ρ γ h
  obtain ⟨ha, hg, hr, hf, hm, hc, hl⟩ := h
  have ha : a = [ρ 0, ρ 1, ρ 2, ρ 3] := ha
  subst ha
  subst hg
  obtain ⟨-, -, -, -, r4, -⟩ := hr
  have r4 : (45 : Int) ≤ ρ 4 ∧ ρ 4 ≤ 45 := r4
  obtain ⟨f0, f1, -⟩ := hf
  have f0 : (0 : Int) ≤ -ρ 1 + ρ 0 + 5 := f0
  have f1 : (0 : Int) ≤ ρ 1 + -ρ 0 + (-5) := f1
  obtain ⟨w_0, w_1, w_2, w_3, w_4, w_5⟩ : (¬ (ρ 4 ≠ 45)) ∧ (0 ≤ ρ 1 + -ρ 0 + (-2)) ∧ (0 ≤ ρ 1 + -ρ 0 + (-3)) ∧ (0 ≤ ρ 1 + -ρ 0 + (-4)) ∧ (0 ≤ ρ 1 + -ρ 0 + (-5)) ∧ (¬ (0 ≤ ρ 1 + -ρ 0 + (-6))) := ⟨by omega, by omega, by omega, by omega, by omega, by omega⟩
  obtain ⟨m0, m1, -⟩ := hm
  have m0 : γ 0 15 0 35 = ρ 0 := m0
  have m1 : γ 0 15 0 34 = ρ 1 := m1
  obtain ⟨⟨⟨-, c16⟩, c17⟩, c18⟩ := hc
  have c16 : γ 16 = rUp (γ 15) 15 0 35 (ρ 0 + 5) := c16
  have c17 : γ 17 = rUp (γ 16) 15 0 39 (ρ 13) := c17
  have c18 : γ 18 = rUp (γ 17) 15 0 40 0 := c18
  obtain ⟨l0, l1, l2, l3, l4, l5, l6, l7, l8, l9, l10, l11, l12, l13, l14, l15, -⟩ := hl
  have l0 : sn6 [ρ 0, ρ 1] (γ 0) 0 (ρ 4) (γ 1) := hS6 _ _ _ _ _ l0
  have l1 : sn6 [ρ 0 + 1, ρ 1] (γ 1) 0 (ρ 5) (γ 2) := hS6 _ _ _ _ _ l1
  have l2 : sn11 [ρ 5] (γ 2) 0 1 (γ 3) := hS11 _ _ _ _ _ l2
  have l3 : sn6 [ρ 0 + 1, ρ 1] (γ 3) 0 (ρ 6) (γ 4) := hS6 _ _ _ _ _ l3
  have l4 : sn6 [ρ 0 + 2, ρ 1] (γ 4) 0 (ρ 7) (γ 5) := hS6 _ _ _ _ _ l4
  have l5 : sn11 [ρ 7] (γ 5) 0 1 (γ 6) := hS11 _ _ _ _ _ l5
  have l6 : sn6 [ρ 0 + 2, ρ 1] (γ 6) 0 (ρ 8) (γ 7) := hS6 _ _ _ _ _ l6
  have l7 : sn6 [ρ 0 + 3, ρ 1] (γ 7) 0 (ρ 9) (γ 8) := hS6 _ _ _ _ _ l7
  have l8 : sn11 [ρ 9] (γ 8) 0 1 (γ 9) := hS11 _ _ _ _ _ l8
  have l9 : sn6 [ρ 0 + 3, ρ 1] (γ 9) 0 (ρ 10) (γ 10) := hS6 _ _ _ _ _ l9
  have l10 : sn6 [ρ 0 + 4, ρ 1] (γ 10) 0 (ρ 11) (γ 11) := hS6 _ _ _ _ _ l10
  have l11 : sn11 [ρ 11] (γ 11) 0 1 (γ 12) := hS11 _ _ _ _ _ l11
  have l12 : sn6 [ρ 0 + 4, ρ 1] (γ 12) 0 (ρ 12) (γ 13) := hS6 _ _ _ _ _ l12
  have l13 : sn6 [ρ 0 + 5, ρ 1] (γ 13) 0 (-1) (γ 14) := hS6 _ _ _ _ _ l13
  have l14 : sn11 [(-1)] (γ 14) 0 0 (γ 15) := hS11 _ _ _ _ _ l14
  have l15 : zOpP (.lneg) (γ 0) (γ 1) [ρ 12 + (10 * ρ 10 + (100 * ρ 8 + 1000 * ρ 6)) + (-53328)] (ρ 13) := l15
  show sn14 [ρ 0, ρ 1, ρ 2, ρ 3] (γ 0) 0 1 (γ 18)
  have hD : dn14 [] (γ 0) = .inr (0, 1, γ 18) := by
    unfold dn14
    refine (zLet_eq m0).trans ?_
    refine (zLet_eq m1).trans ?_
    refine (zLet_eq (show fn6 [ρ 0] (γ 0) = (0, ρ 4, γ 1) from l0.symm)).trans ?_
    refine (zLet_eq (show _ = γ 1 from rfl)).trans ?_
    refine (zLet_eq (show _ = ρ 4 from rfl)).trans ?_
    refine (if_neg w_0).trans ?_
    refine (zLet_eq (show fn6 [ρ 0 + 1] (γ 1) = (0, ρ 5, γ 2) from l1.symm)).trans ?_
    refine (zLet_eq (show _ = γ 2 from rfl)).trans ?_
    refine (if_pos w_1).trans ?_
    refine (zLet_eq (show _ = ρ 5 from rfl)).trans ?_
    refine (zLet_eq (show fn11 [ρ 5] (γ 2) = (0, 1, γ 3) from l2.symm)).trans ?_
    refine (zLet_eq (show _ = γ 3 from rfl)).trans ?_
    refine (if_pos zQ1_).trans ?_
    refine (zLet_eq (show fn6 [ρ 0 + 1] (γ 3) = (0, ρ 6, γ 4) from l3.symm)).trans ?_
    refine (zLet_eq (show _ = γ 4 from rfl)).trans ?_
    refine (zLet_eq (show _ = ρ 6 from rfl)).trans ?_
    refine (zLet_eq (show fn6 [ρ 0 + 2] (γ 4) = (0, ρ 7, γ 5) from l4.symm)).trans ?_
    refine (zLet_eq (show _ = γ 5 from rfl)).trans ?_
    refine (if_pos w_2).trans ?_
    refine (zLet_eq (show _ = ρ 7 from rfl)).trans ?_
    refine (zLet_eq (show fn11 [ρ 7] (γ 5) = (0, 1, γ 6) from l5.symm)).trans ?_
    refine (zLet_eq (show _ = γ 6 from rfl)).trans ?_
    refine (if_pos zQ1_).trans ?_
    refine (zLet_eq (show fn6 [ρ 0 + 2] (γ 6) = (0, ρ 8, γ 7) from l6.symm)).trans ?_
    refine (zLet_eq (show _ = γ 7 from rfl)).trans ?_
    refine (zLet_eq (show _ = ρ 8 from rfl)).trans ?_
    refine (zLet_eq (show fn6 [ρ 0 + 3] (γ 7) = (0, ρ 9, γ 8) from l7.symm)).trans ?_
    refine (zLet_eq (show _ = γ 8 from rfl)).trans ?_
    refine (if_pos w_3).trans ?_
    refine (zLet_eq (show _ = ρ 9 from rfl)).trans ?_
    refine (zLet_eq (show fn11 [ρ 9] (γ 8) = (0, 1, γ 9) from l8.symm)).trans ?_
    refine (zLet_eq (show _ = γ 9 from rfl)).trans ?_
    refine (if_pos zQ1_).trans ?_
    refine (zLet_eq (show fn6 [ρ 0 + 3] (γ 9) = (0, ρ 10, γ 10) from l9.symm)).trans ?_
    refine (zLet_eq (show _ = γ 10 from rfl)).trans ?_
    refine (zLet_eq (show _ = ρ 10 from rfl)).trans ?_
    refine (zLet_eq (show fn6 [ρ 0 + 4] (γ 10) = (0, ρ 11, γ 11) from l10.symm)).trans ?_
    refine (zLet_eq (show _ = γ 11 from rfl)).trans ?_
    refine (if_pos w_4).trans ?_
    refine (zLet_eq (show _ = ρ 11 from rfl)).trans ?_
    refine (zLet_eq (show fn11 [ρ 11] (γ 11) = (0, 1, γ 12) from l11.symm)).trans ?_
    refine (zLet_eq (show _ = γ 12 from rfl)).trans ?_
    refine (if_pos zQ1_).trans ?_
    refine (zLet_eq (show fn6 [ρ 0 + 4] (γ 12) = (0, ρ 12, γ 13) from l12.symm)).trans ?_
    refine (zLet_eq (show _ = γ 13 from rfl)).trans ?_
    refine (zLet_eq (show _ = ρ 12 from rfl)).trans ?_
    refine (zLet_eq (show fn6 [ρ 0 + 5] (γ 13) = (0, (-1), γ 14) from l13.symm)).trans ?_
    refine (zLet_eq (show _ = γ 14 from rfl)).trans ?_
    refine (if_neg w_5).trans ?_
    refine (zLet_eq (show fn11 [(-1)] (γ 14) = (0, 0, γ 15) from l14.symm)).trans ?_
    refine (zLet_eq (show _ = γ 15 from rfl)).trans ?_
    refine (zLet_eq c16.symm).trans ?_
    refine (zLet_eq (zF1_ok l15)).trans ?_
    refine (zLet_eq c17.symm).trans ?_
    refine (zLet_eq c18.symm).trans ?_
    rfl
  exact zGoo_end hD
theorem vn14_29 {S : Nat → zSpc} (hS6 : ∀ x g o v gz, S 6 x g o v gz → sn6 x g o v gz) (hS8 : ∀ x g o v gz, S 8 x g o v gz → sn8 x g o v gz) (hS11 : ∀ x g o v gz, S 11 x g o v gz → sn11 x g o v gz) {a : List Int} {g : rHp} : ∀ (ρ : Nat → Int) (γ : Nat → rHp), zO 4 S a g q14_29 ρ γ → zGl (fun i vs g1 => jn14 a g i vs g1) (sn14 a g) q14_29 ρ γ := by
  intro ρ γ h
  obtain ⟨ha, hg, hr, hf, hm, hc, hl⟩ := h
  have ha : a = [ρ 0, ρ 1, ρ 2, ρ 3] := ha
  subst ha
  subst hg
  obtain ⟨-, -, -, -, r4, -⟩ := hr
  have r4 : (45 : Int) ≤ ρ 4 ∧ ρ 4 ≤ 45 := r4
  obtain ⟨f0, f1, -⟩ := hf
  have f0 : (0 : Int) ≤ -ρ 1 + ρ 0 + 4 := f0
  have f1 : (0 : Int) ≤ ρ 1 + -ρ 0 + (-4) := f1
  obtain ⟨w_0, w_1, w_2, w_3, w_4⟩ : (¬ (ρ 4 ≠ 45)) ∧ (0 ≤ ρ 1 + -ρ 0 + (-2)) ∧ (0 ≤ ρ 1 + -ρ 0 + (-3)) ∧ (0 ≤ ρ 1 + -ρ 0 + (-4)) ∧ (¬ (0 ≤ ρ 1 + -ρ 0 + (-5))) := ⟨by omega, by omega, by omega, by omega, by omega⟩
  obtain ⟨m0, m1, -⟩ := hm
  have m0 : γ 0 15 0 35 = ρ 0 := m0
  have m1 : γ 0 15 0 34 = ρ 1 := m1
  obtain ⟨⟨⟨-, c13⟩, c14⟩, c15⟩ := hc
  have c13 : γ 13 = rUp (γ 12) 15 0 35 (ρ 0 + 4) := c13
  have c14 : γ 14 = rUp (γ 13) 15 0 39 (ρ 11) := c14
  have c15 : γ 15 = rUp (γ 14) 15 0 40 0 := c15
  obtain ⟨l0, l1, l2, l3, l4, l5, l6, l7, l8, l9, l10, l11, l12, -⟩ := hl
  have l0 : sn6 [ρ 0, ρ 1] (γ 0) 0 (ρ 4) (γ 1) := hS6 _ _ _ _ _ l0
  have l1 : sn6 [ρ 0 + 1, ρ 1] (γ 1) 0 (ρ 5) (γ 2) := hS6 _ _ _ _ _ l1
  have l2 : sn11 [ρ 5] (γ 2) 0 1 (γ 3) := hS11 _ _ _ _ _ l2
  have l3 : sn6 [ρ 0 + 1, ρ 1] (γ 3) 0 (ρ 6) (γ 4) := hS6 _ _ _ _ _ l3
  have l4 : sn6 [ρ 0 + 2, ρ 1] (γ 4) 0 (ρ 7) (γ 5) := hS6 _ _ _ _ _ l4
  have l5 : sn11 [ρ 7] (γ 5) 0 1 (γ 6) := hS11 _ _ _ _ _ l5
  have l6 : sn6 [ρ 0 + 2, ρ 1] (γ 6) 0 (ρ 8) (γ 7) := hS6 _ _ _ _ _ l6
  have l7 : sn6 [ρ 0 + 3, ρ 1] (γ 7) 0 (ρ 9) (γ 8) := hS6 _ _ _ _ _ l7
  have l8 : sn11 [ρ 9] (γ 8) 0 1 (γ 9) := hS11 _ _ _ _ _ l8
  have l9 : sn6 [ρ 0 + 3, ρ 1] (γ 9) 0 (ρ 10) (γ 10) := hS6 _ _ _ _ _ l9
  have l10 : sn6 [ρ 0 + 4, ρ 1] (γ 10) 0 (-1) (γ 11) := hS6 _ _ _ _ _ l10
  have l11 : sn11 [(-1)] (γ 11) 0 0 (γ 12) := hS11 _ _ _ _ _ l11
  have l12 : zOpP (.lneg) (γ 0) (γ 1) [ρ 10 + (10 * ρ 8 + 100 * ρ 6) + (-5328)] (ρ 11) := l12
  show sn14 [ρ 0, ρ 1, ρ 2, ρ 3] (γ 0) 0 1 (γ 15)
  have hD : dn14 [] (γ 0) = .inr (0, 1, γ 15) := by
    unfold dn14
    refine (zLet_eq m0).trans ?_
    refine (zLet_eq m1).trans ?_
    refine (zLet_eq (show fn6 [ρ 0] (γ 0) = (0, ρ 4, γ 1) from l0.symm)).trans ?_
    refine (zLet_eq (show _ = γ 1 from rfl)).trans ?_
    refine (zLet_eq (show _ = ρ 4 from rfl)).trans ?_
    refine (if_neg w_0).trans ?_
    refine (zLet_eq (show fn6 [ρ 0 + 1] (γ 1) = (0, ρ 5, γ 2) from l1.symm)).trans ?_
    refine (zLet_eq (show _ = γ 2 from rfl)).trans ?_
    refine (if_pos w_1).trans ?_
    refine (zLet_eq (show _ = ρ 5 from rfl)).trans ?_
    refine (zLet_eq (show fn11 [ρ 5] (γ 2) = (0, 1, γ 3) from l2.symm)).trans ?_
    refine (zLet_eq (show _ = γ 3 from rfl)).trans ?_
    refine (if_pos zQ1_).trans ?_
    refine (zLet_eq (show fn6 [ρ 0 + 1] (γ 3) = (0, ρ 6, γ 4) from l3.symm)).trans ?_
    refine (zLet_eq (show _ = γ 4 from rfl)).trans ?_
    refine (zLet_eq (show _ = ρ 6 from rfl)).trans ?_
    refine (zLet_eq (show fn6 [ρ 0 + 2] (γ 4) = (0, ρ 7, γ 5) from l4.symm)).trans ?_
    refine (zLet_eq (show _ = γ 5 from rfl)).trans ?_
    refine (if_pos w_2).trans ?_
    refine (zLet_eq (show _ = ρ 7 from rfl)).trans ?_
    refine (zLet_eq (show fn11 [ρ 7] (γ 5) = (0, 1, γ 6) from l5.symm)).trans ?_
    refine (zLet_eq (show _ = γ 6 from rfl)).trans ?_
    refine (if_pos zQ1_).trans ?_
    refine (zLet_eq (show fn6 [ρ 0 + 2] (γ 6) = (0, ρ 8, γ 7) from l6.symm)).trans ?_
    refine (zLet_eq (show _ = γ 7 from rfl)).trans ?_
    refine (zLet_eq (show _ = ρ 8 from rfl)).trans ?_
    refine (zLet_eq (show fn6 [ρ 0 + 3] (γ 7) = (0, ρ 9, γ 8) from l7.symm)).trans ?_
    refine (zLet_eq (show _ = γ 8 from rfl)).trans ?_
    refine (if_pos w_3).trans ?_
    refine (zLet_eq (show _ = ρ 9 from rfl)).trans ?_
    refine (zLet_eq (show fn11 [ρ 9] (γ 8) = (0, 1, γ 9) from l8.symm)).trans ?_
    refine (zLet_eq (show _ = γ 9 from rfl)).trans ?_
    refine (if_pos zQ1_).trans ?_
    refine (zLet_eq (show fn6 [ρ 0 + 3] (γ 9) = (0, ρ 10, γ 10) from l9.symm)).trans ?_
    refine (zLet_eq (show _ = γ 10 from rfl)).trans ?_
    refine (zLet_eq (show _ = ρ 10 from rfl)).trans ?_
    refine (zLet_eq (show fn6 [ρ 0 + 4] (γ 10) = (0, (-1), γ 11) from l10.symm)).trans ?_
    refine (zLet_eq (show _ = γ 11 from rfl)).trans ?_
    refine (if_neg w_4).trans ?_
    refine (zLet_eq (show fn11 [(-1)] (γ 11) = (0, 0, γ 12) from l11.symm)).trans ?_
    refine (zLet_eq (show _ = γ 12 from rfl)).trans ?_
    refine (zLet_eq c13.symm).trans ?_
    refine (zLet_eq (zF1_ok l12)).trans ?_
    refine (zLet_eq c14.symm).trans ?_
    refine (zLet_eq c15.symm).trans ?_
    rfl
  exact zGoo_end hD
theorem vn14_30 {S : Nat → zSpc} (hS6 : ∀ x g o v gz, S 6 x g o v gz → sn6 x g o v gz) (hS8 : ∀ x g o v gz, S 8 x g o v gz → sn8 x g o v gz) (hS11 : ∀ x g o v gz, S 11 x g o v gz → sn11 x g o v gz) {a : List Int} {g : rHp} : ∀ (ρ : Nat → Int) (γ : Nat → rHp), zO 4 S a g q14_30 ρ γ → zGl (fun i vs g1 => jn14 a g i vs g1) (sn14 a g) q14_30 ρ γ := by
  intro ρ γ h
  obtain ⟨ha, hg, hr, hf, hm, hc, hl⟩ := h
  have ha : a = [ρ 0, ρ 1, ρ 2, ρ 3] := ha
  subst ha
  subst hg
  obtain ⟨-, -, -, -, r4, -⟩ := hr
  have r4 : (45 : Int) ≤ ρ 4 ∧ ρ 4 ≤ 45 := r4
  obtain ⟨f0, f1, -⟩ := hf
  have f0 : (0 : Int) ≤ -ρ 1 + ρ 0 + 3 := f0
  have f1 : (0 : Int) ≤ ρ 1 + -ρ 0 + (-3) := f1
  obtain ⟨w_0, w_1, w_2, w_3⟩ : (¬ (ρ 4 ≠ 45)) ∧ (0 ≤ ρ 1 + -ρ 0 + (-2)) ∧ (0 ≤ ρ 1 + -ρ 0 + (-3)) ∧ (¬ (0 ≤ ρ 1 + -ρ 0 + (-4))) := ⟨by omega, by omega, by omega, by omega⟩
  obtain ⟨m0, m1, -⟩ := hm
  have m0 : γ 0 15 0 35 = ρ 0 := m0
  have m1 : γ 0 15 0 34 = ρ 1 := m1
  obtain ⟨⟨⟨-, c10⟩, c11⟩, c12⟩ := hc
  have c10 : γ 10 = rUp (γ 9) 15 0 35 (ρ 0 + 3) := c10
  have c11 : γ 11 = rUp (γ 10) 15 0 39 (ρ 9) := c11
  have c12 : γ 12 = rUp (γ 11) 15 0 40 0 := c12
  obtain ⟨l0, l1, l2, l3, l4, l5, l6, l7, l8, l9, -⟩ := hl
  have l0 : sn6 [ρ 0, ρ 1] (γ 0) 0 (ρ 4) (γ 1) := hS6 _ _ _ _ _ l0
  have l1 : sn6 [ρ 0 + 1, ρ 1] (γ 1) 0 (ρ 5) (γ 2) := hS6 _ _ _ _ _ l1
  have l2 : sn11 [ρ 5] (γ 2) 0 1 (γ 3) := hS11 _ _ _ _ _ l2
  have l3 : sn6 [ρ 0 + 1, ρ 1] (γ 3) 0 (ρ 6) (γ 4) := hS6 _ _ _ _ _ l3
  have l4 : sn6 [ρ 0 + 2, ρ 1] (γ 4) 0 (ρ 7) (γ 5) := hS6 _ _ _ _ _ l4
  have l5 : sn11 [ρ 7] (γ 5) 0 1 (γ 6) := hS11 _ _ _ _ _ l5
  have l6 : sn6 [ρ 0 + 2, ρ 1] (γ 6) 0 (ρ 8) (γ 7) := hS6 _ _ _ _ _ l6
  have l7 : sn6 [ρ 0 + 3, ρ 1] (γ 7) 0 (-1) (γ 8) := hS6 _ _ _ _ _ l7
  have l8 : sn11 [(-1)] (γ 8) 0 0 (γ 9) := hS11 _ _ _ _ _ l8
  have l9 : zOpP (.lneg) (γ 0) (γ 1) [ρ 8 + 10 * ρ 6 + (-528)] (ρ 9) := l9
  show sn14 [ρ 0, ρ 1, ρ 2, ρ 3] (γ 0) 0 1 (γ 12)
  have hD : dn14 [] (γ 0) = .inr (0, 1, γ 12) := by
    unfold dn14
    refine (zLet_eq m0).trans ?_
    refine (zLet_eq m1).trans ?_
    refine (zLet_eq (show fn6 [ρ 0] (γ 0) = (0, ρ 4, γ 1) from l0.symm)).trans ?_
    refine (zLet_eq (show _ = γ 1 from rfl)).trans ?_
    refine (zLet_eq (show _ = ρ 4 from rfl)).trans ?_
    refine (if_neg w_0).trans ?_
    refine (zLet_eq (show fn6 [ρ 0 + 1] (γ 1) = (0, ρ 5, γ 2) from l1.symm)).trans ?_
    refine (zLet_eq (show _ = γ 2 from rfl)).trans ?_
    refine (if_pos w_1).trans ?_
    refine (zLet_eq (show _ = ρ 5 from rfl)).trans ?_
    refine (zLet_eq (show fn11 [ρ 5] (γ 2) = (0, 1, γ 3) from l2.symm)).trans ?_
    refine (zLet_eq (show _ = γ 3 from rfl)).trans ?_
    refine (if_pos zQ1_).trans ?_
    refine (zLet_eq (show fn6 [ρ 0 + 1] (γ 3) = (0, ρ 6, γ 4) from l3.symm)).trans ?_
    refine (zLet_eq (show _ = γ 4 from rfl)).trans ?_
    refine (zLet_eq (show _ = ρ 6 from rfl)).trans ?_
    refine (zLet_eq (show fn6 [ρ 0 + 2] (γ 4) = (0, ρ 7, γ 5) from l4.symm)).trans ?_
    refine (zLet_eq (show _ = γ 5 from rfl)).trans ?_
    refine (if_pos w_2).trans ?_
    refine (zLet_eq (show _ = ρ 7 from rfl)).trans ?_
    refine (zLet_eq (show fn11 [ρ 7] (γ 5) = (0, 1, γ 6) from l5.symm)).trans ?_
    refine (zLet_eq (show _ = γ 6 from rfl)).trans ?_
    refine (if_pos zQ1_).trans ?_
    refine (zLet_eq (show fn6 [ρ 0 + 2] (γ 6) = (0, ρ 8, γ 7) from l6.symm)).trans ?_
    refine (zLet_eq (show _ = γ 7 from rfl)).trans ?_
    refine (zLet_eq (show _ = ρ 8 from rfl)).trans ?_
    refine (zLet_eq (show fn6 [ρ 0 + 3] (γ 7) = (0, (-1), γ 8) from l7.symm)).trans ?_
    refine (zLet_eq (show _ = γ 8 from rfl)).trans ?_
    refine (if_neg w_3).trans ?_
    refine (zLet_eq (show fn11 [(-1)] (γ 8) = (0, 0, γ 9) from l8.symm)).trans ?_
    refine (zLet_eq (show _ = γ 9 from rfl)).trans ?_
    refine (zLet_eq c10.symm).trans ?_
    refine (zLet_eq (zF1_ok l9)).trans ?_
    refine (zLet_eq c11.symm).trans ?_
    refine (zLet_eq c12.symm).trans ?_
    rfl
  exact zGoo_end hD
theorem vn14_31 {S : Nat → zSpc} (hS6 : ∀ x g o v gz, S 6 x g o v gz → sn6 x g o v gz) (hS8 : ∀ x g o v gz, S 8 x g o v gz → sn8 x g o v gz) (hS11 : ∀ x g o v gz, S 11 x g o v gz → sn11 x g o v gz) {a : List Int} {g : rHp} : ∀ (ρ : Nat → Int) (γ : Nat → rHp), zO 4 S a g q14_31 ρ γ → zGl (fun i vs g1 => jn14 a g i vs g1) (sn14 a g) q14_31 ρ γ := by
  intro ρ γ h
  obtain ⟨ha, hg, hr, hf, hm, hc, hl⟩ := h
  have ha : a = [ρ 0, ρ 1, ρ 2, ρ 3] := ha
  subst ha
  subst hg
  obtain ⟨-, -, -, -, r4, -⟩ := hr
  have r4 : (45 : Int) ≤ ρ 4 ∧ ρ 4 ≤ 45 := r4
  obtain ⟨f0, f1, -⟩ := hf
  have f0 : (0 : Int) ≤ -ρ 1 + ρ 0 + 2 := f0
  have f1 : (0 : Int) ≤ ρ 1 + -ρ 0 + (-2) := f1
  obtain ⟨w_0, w_1, w_2⟩ : (¬ (ρ 4 ≠ 45)) ∧ (0 ≤ ρ 1 + -ρ 0 + (-2)) ∧ (¬ (0 ≤ ρ 1 + -ρ 0 + (-3))) := ⟨by omega, by omega, by omega⟩
  obtain ⟨m0, m1, -⟩ := hm
  have m0 : γ 0 15 0 35 = ρ 0 := m0
  have m1 : γ 0 15 0 34 = ρ 1 := m1
  obtain ⟨⟨⟨-, c7⟩, c8⟩, c9⟩ := hc
  have c7 : γ 7 = rUp (γ 6) 15 0 35 (ρ 0 + 2) := c7
  have c8 : γ 8 = rUp (γ 7) 15 0 39 (ρ 7) := c8
  have c9 : γ 9 = rUp (γ 8) 15 0 40 0 := c9
  obtain ⟨l0, l1, l2, l3, l4, l5, l6, -⟩ := hl
  have l0 : sn6 [ρ 0, ρ 1] (γ 0) 0 (ρ 4) (γ 1) := hS6 _ _ _ _ _ l0
  have l1 : sn6 [ρ 0 + 1, ρ 1] (γ 1) 0 (ρ 5) (γ 2) := hS6 _ _ _ _ _ l1
  have l2 : sn11 [ρ 5] (γ 2) 0 1 (γ 3) := hS11 _ _ _ _ _ l2
  have l3 : sn6 [ρ 0 + 1, ρ 1] (γ 3) 0 (ρ 6) (γ 4) := hS6 _ _ _ _ _ l3
  have l4 : sn6 [ρ 0 + 2, ρ 1] (γ 4) 0 (-1) (γ 5) := hS6 _ _ _ _ _ l4
  have l5 : sn11 [(-1)] (γ 5) 0 0 (γ 6) := hS11 _ _ _ _ _ l5
  have l6 : zOpP (.lneg) (γ 0) (γ 1) [ρ 6 + (-48)] (ρ 7) := l6
  show sn14 [ρ 0, ρ 1, ρ 2, ρ 3] (γ 0) 0 1 (γ 9)
  have hD : dn14 [] (γ 0) = .inr (0, 1, γ 9) := by
    unfold dn14
    refine (zLet_eq m0).trans ?_
    refine (zLet_eq m1).trans ?_
    refine (zLet_eq (show fn6 [ρ 0] (γ 0) = (0, ρ 4, γ 1) from l0.symm)).trans ?_
    refine (zLet_eq (show _ = γ 1 from rfl)).trans ?_
    refine (zLet_eq (show _ = ρ 4 from rfl)).trans ?_
    refine (if_neg w_0).trans ?_
    refine (zLet_eq (show fn6 [ρ 0 + 1] (γ 1) = (0, ρ 5, γ 2) from l1.symm)).trans ?_
    refine (zLet_eq (show _ = γ 2 from rfl)).trans ?_
    refine (if_pos w_1).trans ?_
    refine (zLet_eq (show _ = ρ 5 from rfl)).trans ?_
    refine (zLet_eq (show fn11 [ρ 5] (γ 2) = (0, 1, γ 3) from l2.symm)).trans ?_
    refine (zLet_eq (show _ = γ 3 from rfl)).trans ?_
    refine (if_pos zQ1_).trans ?_
    refine (zLet_eq (show fn6 [ρ 0 + 1] (γ 3) = (0, ρ 6, γ 4) from l3.symm)).trans ?_
    refine (zLet_eq (show _ = γ 4 from rfl)).trans ?_
    refine (zLet_eq (show _ = ρ 6 from rfl)).trans ?_
    refine (zLet_eq (show fn6 [ρ 0 + 2] (γ 4) = (0, (-1), γ 5) from l4.symm)).trans ?_
    refine (zLet_eq (show _ = γ 5 from rfl)).trans ?_
    refine (if_neg w_2).trans ?_
    refine (zLet_eq (show fn11 [(-1)] (γ 5) = (0, 0, γ 6) from l5.symm)).trans ?_
    refine (zLet_eq (show _ = γ 6 from rfl)).trans ?_
    refine (zLet_eq c7.symm).trans ?_
    refine (zLet_eq (zF1_ok l6)).trans ?_
    refine (zLet_eq c8.symm).trans ?_
    refine (zLet_eq c9.symm).trans ?_
    rfl
  exact zGoo_end hD
theorem vn14_32 {S : Nat → zSpc} (hS6 : ∀ x g o v gz, S 6 x g o v gz → sn6 x g o v gz) (hS8 : ∀ x g o v gz, S 8 x g o v gz → sn8 x g o v gz) (hS11 : ∀ x g o v gz, S 11 x g o v gz → sn11 x g o v gz) {a : List Int} {g : rHp} : ∀ (ρ : Nat → Int) (γ : Nat → rHp), zO 4 S a g q14_32 ρ γ → zGl (fun i vs g1 => jn14 a g i vs g1) (sn14 a g) q14_32 ρ γ := by
  intro ρ γ h
  obtain ⟨ha, hg, hr, hf, hm, hc, hl⟩ := h
  have ha : a = [ρ 0, ρ 1, ρ 2, ρ 3] := ha
  subst ha
  subst hg
  obtain ⟨-, -, -, -, r4, -⟩ := hr
  have r4 : (45 : Int) ≤ ρ 4 ∧ ρ 4 ≤ 45 := r4
  obtain ⟨-, -, f2, -⟩ := hf
  have f2 : (0 : Int) ≤ -ρ 1 + ρ 0 + 1 := f2
  obtain ⟨w_0, w_1⟩ : (¬ (ρ 4 ≠ 45)) ∧ (¬ (0 ≤ ρ 1 + -ρ 0 + (-2))) := ⟨by omega, by omega⟩
  obtain ⟨m0, m1, -⟩ := hm
  have m0 : γ 0 15 0 35 = ρ 0 := m0
  have m1 : γ 0 15 0 34 = ρ 1 := m1
  obtain ⟨l0, l1, l2, l3, -⟩ := hl
  have l0 : sn6 [ρ 0, ρ 1] (γ 0) 0 (ρ 4) (γ 1) := hS6 _ _ _ _ _ l0
  have l1 : sn6 [ρ 0 + 1, ρ 1] (γ 1) 0 (-1) (γ 2) := hS6 _ _ _ _ _ l1
  have l2 : sn11 [(-1)] (γ 2) 0 0 (γ 3) := hS11 _ _ _ _ _ l2
  have l3 : sn8 [ρ 0, ρ 1, ρ 2] (γ 3) 0 0 (γ 4) := hS8 _ _ _ _ _ l3
  show sn14 [ρ 0, ρ 1, ρ 2, ρ 3] (γ 0) 0 0 (γ 4)
  have hD : dn14 [] (γ 0) = .inr (0, 0, γ 4) := by
    unfold dn14
    refine (zLet_eq m0).trans ?_
    refine (zLet_eq m1).trans ?_
    refine (zLet_eq (show fn6 [ρ 0] (γ 0) = (0, ρ 4, γ 1) from l0.symm)).trans ?_
    refine (zLet_eq (show _ = γ 1 from rfl)).trans ?_
    refine (zLet_eq (show _ = ρ 4 from rfl)).trans ?_
    refine (if_neg w_0).trans ?_
    refine (zLet_eq (show fn6 [ρ 0 + 1] (γ 1) = (0, (-1), γ 2) from l1.symm)).trans ?_
    refine (zLet_eq (show _ = γ 2 from rfl)).trans ?_
    refine (if_neg w_1).trans ?_
    refine (zLet_eq (show fn11 [(-1)] (γ 2) = (0, 0, γ 3) from l2.symm)).trans ?_
    refine (zLet_eq (show _ = γ 3 from rfl)).trans ?_
    refine (zLet_eq (show fn8 [ρ 0] (γ 3) = (0, 0, γ 4) from l3.symm)).trans ?_
    refine (zLet_eq (show _ = γ 4 from rfl)).trans ?_
    rfl
  exact zGoo_end hD
theorem vn14a0_0 {S : Nat → zSpc} (hS6 : ∀ x g o v gz, S 6 x g o v gz → sn6 x g o v gz) (hS8 : ∀ x g o v gz, S 8 x g o v gz → sn8 x g o v gz) (hS11 : ∀ x g o v gz, S 11 x g o v gz → sn11 x g o v gz) {a : List Int} {g : rHp} : ∀ (ρ : Nat → Int) (γ : Nat → rHp), jn14 a g 0 (zAg (zNA a14_ 0) ρ) (γ 1) → zO 4 S a g q14a0_0 ρ γ → zGl (fun i vs g1 => jn14 a g i vs g1) (sn14 a g) q14a0_0 ρ γ := by
  intro ρ γ hJ h
  obtain ⟨ha, hg, hr, hf, hm, hc, hl⟩ := h
  have ha : a = [ρ 0, ρ 1, ρ 2, ρ 3] := ha
  subst ha
  subst hg
  have hJ : jn14 [ρ 0, ρ 1, ρ 2, ρ 3] (γ 0) 0 [ρ 0, ρ 1, ρ 2, ρ 3, ρ 4, ρ 5, ρ 6, ρ 7] (γ 1) := hJ
  obtain ⟨-, -, -, -, f4, -⟩ := hf
  have f4 : (0 : Int) ≤ -ρ 4 + ρ 1 + (-1) := f4
  have w_0 : 0 ≤ -ρ 4 + ρ 1 + (-1) := by omega
  obtain ⟨m0, m1, -⟩ := hm
  have m0 : γ 0 15 0 35 = ρ 0 := m0
  have m1 : γ 0 15 0 34 = ρ 1 := m1
  obtain ⟨l0, l1, l2, -⟩ := hl
  have l0 : sn6 [ρ 4, ρ 1] (γ 1) 0 (ρ 8) (γ 2) := hS6 _ _ _ _ _ l0
  have l1 : sn11 [ρ 8] (γ 2) 0 0 (γ 3) := hS11 _ _ _ _ _ l1
  have l2 : sn8 [ρ 0, ρ 1, ρ 2] (γ 3) 0 0 (γ 4) := hS8 _ _ _ _ _ l2
  show sn14 [ρ 0, ρ 1, ρ 2, ρ 3] (γ 0) 0 0 (γ 4)
  have hD : en14 (γ 0) (0, [ρ 4, ρ 5, ρ 6, ρ 7], γ 1) = .inr (0, 0, γ 4) := by
    unfold en14
    refine (if_pos (show (0 : Nat) = 0 by decide)).trans ?_
    refine (zLet_eq (show _ = γ 1 from rfl)).trans ?_
    refine (zLet_eq (show _ = ρ 4 from rfl)).trans ?_
    refine (zLet_eq (show _ = ρ 5 from rfl)).trans ?_
    refine (zLet_eq (show _ = ρ 6 from rfl)).trans ?_
    refine (zLet_eq (show _ = ρ 7 from rfl)).trans ?_
    refine (zLet_eq m0).trans ?_
    refine (zLet_eq m1).trans ?_
    refine (zLet_eq (show fn6 [ρ 4] (γ 1) = (0, ρ 8, γ 2) from l0.symm)).trans ?_
    refine (zLet_eq (show _ = γ 2 from rfl)).trans ?_
    refine (if_pos w_0).trans ?_
    refine (zLet_eq (show _ = ρ 8 from rfl)).trans ?_
    refine (zLet_eq (show fn11 [ρ 8] (γ 2) = (0, 0, γ 3) from l1.symm)).trans ?_
    refine (zLet_eq (show _ = γ 3 from rfl)).trans ?_
    refine (if_neg zQ0_).trans ?_
    refine (zLet_eq (show fn8 [ρ 0] (γ 3) = (0, 0, γ 4) from l2.symm)).trans ?_
    refine (zLet_eq (show _ = γ 4 from rfl)).trans ?_
    rfl
  exact zGoo_aend hJ hD
theorem vn14a0_1 {S : Nat → zSpc} (hS6 : ∀ x g o v gz, S 6 x g o v gz → sn6 x g o v gz) (hS8 : ∀ x g o v gz, S 8 x g o v gz → sn8 x g o v gz) (hS11 : ∀ x g o v gz, S 11 x g o v gz → sn11 x g o v gz) {a : List Int} {g : rHp} : ∀ (ρ : Nat → Int) (γ : Nat → rHp), jn14 a g 0 (zAg (zNA a14_ 0) ρ) (γ 1) → zO 4 S a g q14a0_1 ρ γ → zGl (fun i vs g1 => jn14 a g i vs g1) (sn14 a g) q14a0_1 ρ γ := by
  intro ρ γ hJ h
  obtain ⟨ha, hg, hr, hf, hm, hc, hl⟩ := h
  have ha : a = [ρ 0, ρ 1, ρ 2, ρ 3] := ha
  subst ha
  subst hg
  have hJ : jn14 [ρ 0, ρ 1, ρ 2, ρ 3] (γ 0) 0 [ρ 0, ρ 1, ρ 2, ρ 3, ρ 4, ρ 5, ρ 6, ρ 7] (γ 1) := hJ
  obtain ⟨-, f1, -⟩ := hf
  have f1 : (0 : Int) ≤ -ρ 4 + ρ 1 + (-1) := f1
  have w_0 : 0 ≤ -ρ 4 + ρ 1 + (-1) := by omega
  obtain ⟨m0, m1, -⟩ := hm
  have m0 : γ 0 15 0 35 = ρ 0 := m0
  have m1 : γ 0 15 0 34 = ρ 1 := m1
  obtain ⟨l0, l1, -⟩ := hl
  have l0 : sn6 [ρ 4, ρ 1] (γ 1) 0 (ρ 8) (γ 2) := hS6 _ _ _ _ _ l0
  have l1 : sn11 [ρ 8] (γ 2) 0 1 (γ 3) := hS11 _ _ _ _ _ l1
  show jn14 [ρ 0, ρ 1, ρ 2, ρ 3] (γ 0) 0 [ρ 0, ρ 1, ρ 2, ρ 3, ρ 4 + 1, ρ 5, ρ 6, ρ 7] (γ 3)
  have hD : en14 (γ 0) (0, [ρ 4, ρ 5, ρ 6, ρ 7], γ 1) = .inl (0, [ρ 4 + 1, ρ 5, ρ 6, ρ 7], γ 3) := by
    unfold en14
    refine (if_pos (show (0 : Nat) = 0 by decide)).trans ?_
    refine (zLet_eq (show _ = γ 1 from rfl)).trans ?_
    refine (zLet_eq (show _ = ρ 4 from rfl)).trans ?_
    refine (zLet_eq (show _ = ρ 5 from rfl)).trans ?_
    refine (zLet_eq (show _ = ρ 6 from rfl)).trans ?_
    refine (zLet_eq (show _ = ρ 7 from rfl)).trans ?_
    refine (zLet_eq m0).trans ?_
    refine (zLet_eq m1).trans ?_
    refine (zLet_eq (show fn6 [ρ 4] (γ 1) = (0, ρ 8, γ 2) from l0.symm)).trans ?_
    refine (zLet_eq (show _ = γ 2 from rfl)).trans ?_
    refine (if_pos w_0).trans ?_
    refine (zLet_eq (show _ = ρ 8 from rfl)).trans ?_
    refine (zLet_eq (show fn11 [ρ 8] (γ 2) = (0, 1, γ 3) from l1.symm)).trans ?_
    refine (zLet_eq (show _ = γ 3 from rfl)).trans ?_
    refine (if_pos zQ1_).trans ?_
    rfl
  exact zGoo_ato hJ hD
theorem vn14a0_2 {S : Nat → zSpc} (hS6 : ∀ x g o v gz, S 6 x g o v gz → sn6 x g o v gz) (hS8 : ∀ x g o v gz, S 8 x g o v gz → sn8 x g o v gz) (hS11 : ∀ x g o v gz, S 11 x g o v gz → sn11 x g o v gz) {a : List Int} {g : rHp} : ∀ (ρ : Nat → Int) (γ : Nat → rHp), jn14 a g 0 (zAg (zNA a14_ 0) ρ) (γ 1) → zO 4 S a g q14a0_2 ρ γ → zGl (fun i vs g1 => jn14 a g i vs g1) (sn14 a g) q14a0_2 ρ γ := by
  intro ρ γ hJ h
  obtain ⟨ha, hg, hr, hf, hm, hc, hl⟩ := h
  have ha : a = [ρ 0, ρ 1, ρ 2, ρ 3] := ha
  subst ha
  subst hg
  have hJ : jn14 [ρ 0, ρ 1, ρ 2, ρ 3] (γ 0) 0 [ρ 0, ρ 1, ρ 2, ρ 3, ρ 4, ρ 5, ρ 6, ρ 7] (γ 1) := hJ
  obtain ⟨-, -, -, -, f4, -⟩ := hf
  have f4 : (0 : Int) ≤ ρ 4 + -ρ 1 := f4
  have w_0 : ¬ (0 ≤ -ρ 4 + ρ 1 + (-1)) := by omega
  obtain ⟨m0, m1, -⟩ := hm
  have m0 : γ 0 15 0 35 = ρ 0 := m0
  have m1 : γ 0 15 0 34 = ρ 1 := m1
  obtain ⟨l0, l1, l2, -⟩ := hl
  have l0 : sn6 [ρ 4, ρ 1] (γ 1) 0 (-1) (γ 2) := hS6 _ _ _ _ _ l0
  have l1 : sn11 [(-1)] (γ 2) 0 0 (γ 3) := hS11 _ _ _ _ _ l1
  have l2 : sn8 [ρ 0, ρ 1, ρ 2] (γ 3) 0 0 (γ 4) := hS8 _ _ _ _ _ l2
  show sn14 [ρ 0, ρ 1, ρ 2, ρ 3] (γ 0) 0 0 (γ 4)
  have hD : en14 (γ 0) (0, [ρ 4, ρ 5, ρ 6, ρ 7], γ 1) = .inr (0, 0, γ 4) := by
    unfold en14
    refine (if_pos (show (0 : Nat) = 0 by decide)).trans ?_
    refine (zLet_eq (show _ = γ 1 from rfl)).trans ?_
    refine (zLet_eq (show _ = ρ 4 from rfl)).trans ?_
    refine (zLet_eq (show _ = ρ 5 from rfl)).trans ?_
    refine (zLet_eq (show _ = ρ 6 from rfl)).trans ?_
    refine (zLet_eq (show _ = ρ 7 from rfl)).trans ?_
    refine (zLet_eq m0).trans ?_
    refine (zLet_eq m1).trans ?_
    refine (zLet_eq (show fn6 [ρ 4] (γ 1) = (0, (-1), γ 2) from l0.symm)).trans ?_
    refine (zLet_eq (show _ = γ 2 from rfl)).trans ?_
    refine (if_neg w_0).trans ?_
    refine (zLet_eq (show fn11 [(-1)] (γ 2) = (0, 0, γ 3) from l1.symm)).trans ?_
    refine (zLet_eq (show _ = γ 3 from rfl)).trans ?_
    refine (zLet_eq (show fn8 [ρ 0] (γ 3) = (0, 0, γ 4) from l2.symm)).trans ?_
    refine (zLet_eq (show _ = γ 4 from rfl)).trans ?_
    rfl
  exact zGoo_aend hJ hD
theorem yn14 {S : Nat → zSpc} (hS6 : ∀ x g o v gz, S 6 x g o v gz → sn6 x g o v gz) (hS8 : ∀ x g o v gz, S 8 x g o v gz → sn8 x g o v gz) (hS11 : ∀ x g o v gz, S 11 x g o v gz → sn11 x g o v gz) : ∀ x g o v gz, zSem uW uT w14_.2.2.2.1 w14_.2.2.1.1.length S q14 (fun i => q14a.getD i []) (zNA a14_) x g o v gz → sn14 x g o v gz := by
  intro a g o v gz h
  exact zSem_all (l0 := q14) (las := q14a) (S := S) (J := (fun i vs g1 => jn14 a g i vs g1)) (P := sn14 a g) (fun _ => (show zAll _ [q14_0, q14_1, q14_2, q14_3, q14_4, q14_5, q14_6, q14_7, q14_8, q14_9, q14_10, q14_11, q14_12, q14_13, q14_14, q14_15, q14_16, q14_17, q14_18, q14_19, q14_20, q14_21, q14_22, q14_23, q14_24, q14_25, q14_26, q14_27, q14_28, q14_29, q14_30, q14_31, q14_32] from (zAll_c (vn14_0 hS6 hS8 hS11) (zAll_c (vn14_1 hS6 hS8 hS11) (zAll_c (vn14_2 hS6 hS8 hS11) (zAll_c (vn14_3 hS6 hS8 hS11) (zAll_c (vn14_4 hS6 hS8 hS11) (zAll_c (vn14_5 hS6 hS8 hS11) (zAll_c (vn14_6 hS6 hS8 hS11) (zAll_c (vn14_7 hS6 hS8 hS11) (zAll_c (vn14_8 hS6 hS8 hS11) (zAll_c (vn14_9 hS6 hS8 hS11) (zAll_c (vn14_10 hS6 hS8 hS11) (zAll_c (vn14_11 hS6 hS8 hS11) (zAll_c (vn14_12 hS6 hS8 hS11) (zAll_c (vn14_13 hS6 hS8 hS11) (zAll_c (vn14_14 hS6 hS8 hS11) (zAll_c (vn14_15 hS6 hS8 hS11) (zAll_c (vn14_16 hS6 hS8 hS11) (zAll_c (vn14_17 hS6 hS8 hS11) (zAll_c (vn14_18 hS6 hS8 hS11) (zAll_c (vn14_19 hS6 hS8 hS11) (zAll_c (vn14_20 hS6 hS8 hS11) (zAll_c (vn14_21 hS6 hS8 hS11) (zAll_c (vn14_22 hS6 hS8 hS11) (zAll_c (vn14_23 hS6 hS8 hS11) (zAll_c (vn14_24 hS6 hS8 hS11) (zAll_c (vn14_25 hS6 hS8 hS11) (zAll_c (vn14_26 hS6 hS8 hS11) (zAll_c (vn14_27 hS6 hS8 hS11) (zAll_c (vn14_28 hS6 hS8 hS11) (zAll_c (vn14_29 hS6 hS8 hS11) (zAll_c (vn14_30 hS6 hS8 hS11) (zAll_c (vn14_31 hS6 hS8 hS11) (zAll_c (vn14_32 hS6 hS8 hS11) zAll_n))))))))))))))))))))))))))))))))))) (fun _ => (show zAllI _ 0 [q14a0] from ⟨(show zAll _ [q14a0_0, q14a0_1, q14a0_2] from (zAll_c (vn14a0_0 hS6 hS8 hS11) (zAll_c (vn14a0_1 hS6 hS8 hS11) (zAll_c (vn14a0_2 hS6 hS8 hS11) zAll_n)))), trivial⟩)) h
