/-! ===== the runs are the functions ===== -/
theorem vn0_0 {S : Nat → zSpc}  {a : List Int} {g : rHp} : ∀ (ρ : Nat → Int) (γ : Nat → rHp), zO 1 S a g q0_0 ρ γ → zGl (fun _ _ _ => True) (sn0 a g) q0_0 ρ γ := by
  intro ρ γ h
  obtain ⟨ha, hg, hr, hf, hm, hc, hl⟩ := h
  have ha : a = [ρ 0] := ha
  subst ha
  subst hg
  have m0 : γ 0 15 0 0 = ρ 0 := zAllA hm 0
  show sn0 [ρ 0] (γ 0) 0 (ρ 0) (γ 0)
  refine Eq.symm ?_
  show fn0 [] (γ 0) = _
  unfold fn0
  refine zLE m0 ?_
  rfl
theorem yn0 {S : Nat → zSpc}  : ∀ x g o v gz, zSem uW uT w0_.2.2.2.1 w0_.2.2.1.1.length S q0 (fun i => q0a.getD i []) (zNA a0_) x g o v gz → sn0 x g o v gz := by
  intro a g o v gz h
  exact zSem_all (l0 := q0) (las := q0a) (S := S) (J := (fun _ _ _ => True)) (P := sn0 a g) (fun _ => (show zAll _ [q0_0] from (zAll_c (vn0_0 ) zAll_n))) (fun _ => (show zAllI _ 0 [] from trivial)) h
theorem vn1_0 {S : Nat → zSpc}  {a : List Int} {g : rHp} : ∀ (ρ : Nat → Int) (γ : Nat → rHp), zO 2 S a g q1_0 ρ γ → zGl (fun _ _ _ => True) (sn1 a g) q1_0 ρ γ := by
  intro ρ γ h
  obtain ⟨ha, hg, hr, hf, hm, hc, hl⟩ := h
  have ha : a = [ρ 0, ρ 1] := ha
  subst ha
  subst hg
  have r0 : (0 : Int) ≤ ρ 0 ∧ ρ 0 ≤ 0 := zRnA hr 0
  have w_0 : ρ 0 = 0 := by omega
  have c1 : γ 1 = rUp (γ 0) 15 0 0 (ρ 0) := And.right (zChA hc 0)
  show sn1 [ρ 0, ρ 1] (γ 0) 0 0 (γ 1)
  refine Eq.symm ?_
  show fn1 [ρ 0] (γ 0) = _
  unfold fn1
  refine zLV (ρ 0) rfl (zLE c1.symm (zIP w_0 ?_))
  rfl
theorem vn1_1 {S : Nat → zSpc}  {a : List Int} {g : rHp} : ∀ (ρ : Nat → Int) (γ : Nat → rHp), zO 2 S a g q1_1 ρ γ → zGl (fun _ _ _ => True) (sn1 a g) q1_1 ρ γ := by
  intro ρ γ h
  obtain ⟨ha, hg, hr, hf, hm, hc, hl⟩ := h
  have ha : a = [ρ 0, ρ 1] := ha
  subst ha
  subst hg
  have r0 : (1 : Int) ≤ ρ 0 ∧ ρ 0 ≤ 3 := zRnA hr 0
  have w_0 : ¬ (ρ 0 = 0) := by omega
  have c1 : γ 1 = rUp (γ 0) 15 0 0 (ρ 0) := And.right (zChA hc 0)
  show sn1 [ρ 0, ρ 1] (γ 0) 0 1 (γ 1)
  refine Eq.symm ?_
  show fn1 [ρ 0] (γ 0) = _
  unfold fn1
  refine zLV (ρ 0) rfl (zLE c1.symm (zIN w_0 ?_))
  rfl
theorem yn1 {S : Nat → zSpc}  : ∀ x g o v gz, zSem uW uT w1_.2.2.2.1 w1_.2.2.1.1.length S q1 (fun i => q1a.getD i []) (zNA a1_) x g o v gz → sn1 x g o v gz := by
  intro a g o v gz h
  exact zSem_all (l0 := q1) (las := q1a) (S := S) (J := (fun _ _ _ => True)) (P := sn1 a g) (fun _ => (show zAll _ [q1_0, q1_1] from (zAll_c (vn1_0 ) (zAll_c (vn1_1 ) zAll_n)))) (fun _ => (show zAllI _ 0 [] from trivial)) h
theorem vn2_0 {S : Nat → zSpc}  {a : List Int} {g : rHp} : ∀ (ρ : Nat → Int) (γ : Nat → rHp), zO 2 S a g q2_0 ρ γ → zGl (fun _ _ _ => True) (sn2 a g) q2_0 ρ γ := by
  intro ρ γ h
  obtain ⟨ha, hg, hr, hf, hm, hc, hl⟩ := h
  have ha : a = [ρ 0, ρ 1] := ha
  subst ha
  subst hg
  have m0 : γ 0 15 0 3 = ρ 1 := zAllA hm 0
  have c1 : γ 1 = rUp (γ 0) 59 0 (ρ 1) (ρ 3) := And.right (zChA hc 7)
  have c2 : γ 2 = rUp (γ 1) 15 0 3 (ρ 1 + 1) := And.right (zChA hc 6)
  have c3 : γ 3 = rUp (γ 2) 59 0 (ρ 1 + 1) (ρ 5) := And.right (zChA hc 5)
  have c4 : γ 4 = rUp (γ 3) 15 0 3 (ρ 1 + 2) := And.right (zChA hc 4)
  have c5 : γ 5 = rUp (γ 4) 59 0 (ρ 1 + 2) (ρ 7) := And.right (zChA hc 3)
  have c6 : γ 6 = rUp (γ 5) 15 0 3 (ρ 1 + 3) := And.right (zChA hc 2)
  have c7 : γ 7 = rUp (γ 6) 59 0 (ρ 1 + 3) (ρ 9) := And.right (zChA hc 1)
  have c8 : γ 8 = rUp (γ 7) 15 0 3 (ρ 1 + 4) := And.right (zChA hc 0)
  have l0 : zOpP (.ishr) (γ 0) (γ 1) [ρ 0, 24] (ρ 2) := zAllA hl 0
  have l1 : zOpP (.i2b) (γ 0) (γ 1) [ρ 2] (ρ 3) := zAllA hl 1
  have l2 : zOpP (.ishr) (γ 0) (γ 1) [ρ 0, 16] (ρ 4) := zAllA hl 2
  have l3 : zOpP (.i2b) (γ 0) (γ 1) [ρ 4] (ρ 5) := zAllA hl 3
  have l4 : zOpP (.ishr) (γ 0) (γ 1) [ρ 0, 8] (ρ 6) := zAllA hl 4
  have l5 : zOpP (.i2b) (γ 0) (γ 1) [ρ 6] (ρ 7) := zAllA hl 5
  have l6 : zOpP (.ishr) (γ 0) (γ 1) [ρ 0, 0] (ρ 8) := zAllA hl 6
  have l7 : zOpP (.i2b) (γ 0) (γ 1) [ρ 8] (ρ 9) := zAllA hl 7
  show sn2 [ρ 0, ρ 1] (γ 0) 0 0 (γ 8)
  refine Eq.symm ?_
  show fn2 [ρ 0] (γ 0) = _
  unfold fn2
  refine zLV (ρ 0) rfl (zLE m0 (zLE (zF2_ok l0) (zLE (zF1_ok l1) (zLE c1.symm (zLE c2.symm (zLE (zF2_ok l2) (zLE (zF1_ok l3) ?_)))))))
  refine zLE c3.symm (zLE c4.symm (zLE (zF2_ok l4) (zLE (zF1_ok l5) (zLE c5.symm (zLE c6.symm (zLE (zF2_ok l6) (zLE (zF1_ok l7) ?_)))))))
  refine zLE c7.symm (zLE c8.symm ?_)
  rfl
theorem yn2 {S : Nat → zSpc}  : ∀ x g o v gz, zSem uW uT w2_.2.2.2.1 w2_.2.2.1.1.length S q2 (fun i => q2a.getD i []) (zNA a2_) x g o v gz → sn2 x g o v gz := by
  intro a g o v gz h
  exact zSem_all (l0 := q2) (las := q2a) (S := S) (J := (fun _ _ _ => True)) (P := sn2 a g) (fun _ => (show zAll _ [q2_0] from (zAll_c (vn2_0 ) zAll_n))) (fun _ => (show zAllI _ 0 [] from trivial)) h
theorem vn3_0 {S : Nat → zSpc} (hS1 : zIm S 1 sn1) (hS2 : zIm S 2 sn2) {a : List Int} {g : rHp} : ∀ (ρ : Nat → Int) (γ : Nat → rHp), zO 7 S a g q3_0 ρ γ → zGl (fun _ _ _ => True) (sn3 a g) q3_0 ρ γ := by
  intro ρ γ h
  obtain ⟨ha, hg, hr, hf, hm, hc, hl⟩ := h
  have ha : a = [ρ 0, ρ 1, ρ 2, ρ 3, ρ 4, ρ 5, ρ 6] := ha
  subst ha
  subst hg
  have r5 : (0 : Int) ≤ ρ 5 ∧ ρ 5 ≤ 1980 := zRnA hr 5
  have w_0 : ρ 5 + 20 ≤ 2000 := by omega
  have m0 : γ 0 15 0 3 = ρ 5 := zAllA hm 0
  have l0 : sn1 [0, ρ 6] (γ 0) 0 0 (γ 1) := hS1 _ _ _ _ _ (zAllA hl 0)
  have l1 : sn2 [ρ 0, ρ 5] (γ 1) 0 0 (γ 2) := hS2 _ _ _ _ _ (zAllA hl 1)
  have l2 : sn2 [ρ 1, ρ 5 + 4] (γ 2) 0 0 (γ 3) := hS2 _ _ _ _ _ (zAllA hl 2)
  have l3 : sn2 [ρ 2, ρ 5 + 8] (γ 3) 0 0 (γ 4) := hS2 _ _ _ _ _ (zAllA hl 3)
  have l4 : sn2 [ρ 3, ρ 5 + 12] (γ 4) 0 0 (γ 5) := hS2 _ _ _ _ _ (zAllA hl 4)
  have l5 : sn2 [ρ 4, ρ 5 + 16] (γ 5) 0 0 (γ 6) := hS2 _ _ _ _ _ (zAllA hl 5)
  show sn3 [ρ 0, ρ 1, ρ 2, ρ 3, ρ 4, ρ 5, ρ 6] (γ 0) 0 (ρ 5 + 20) (γ 6)
  refine Eq.symm ?_
  show fn3 [ρ 0, ρ 1, ρ 2, ρ 3, ρ 4] (γ 0) = _
  unfold fn3
  refine zLV (ρ 0) rfl (zLV (ρ 1) rfl (zLV (ρ 2) rfl (zLV (ρ 3) rfl (zLV (ρ 4) rfl (zLE m0 (zIP w_0 (zLE (show fn1 [0] (γ 0) = (0, 0, γ 1) from l0.symm) ?_)))))))
  refine zLV (γ 1) rfl (zLE (show fn2 [ρ 0] (γ 1) = (0, 0, γ 2) from l1.symm) (zLV (γ 2) rfl (zLE (show fn2 [ρ 1] (γ 2) = (0, 0, γ 3) from l2.symm) (zLV (γ 3) rfl (zLE (show fn2 [ρ 2] (γ 3) = (0, 0, γ 4) from l3.symm) (zLV (γ 4) rfl (zLE (show fn2 [ρ 3] (γ 4) = (0, 0, γ 5) from l4.symm) ?_)))))))
  refine zLV (γ 5) rfl (zLE (show fn2 [ρ 4] (γ 5) = (0, 0, γ 6) from l5.symm) (zLV (γ 6) rfl ?_))
  rfl
theorem vn3_1 {S : Nat → zSpc} (hS1 : zIm S 1 sn1) (hS2 : zIm S 2 sn2) {a : List Int} {g : rHp} : ∀ (ρ : Nat → Int) (γ : Nat → rHp), zO 7 S a g q3_1 ρ γ → zGl (fun _ _ _ => True) (sn3 a g) q3_1 ρ γ := by
  intro ρ γ h
  obtain ⟨ha, hg, hr, hf, hm, hc, hl⟩ := h
  have ha : a = [ρ 0, ρ 1, ρ 2, ρ 3, ρ 4, ρ 5, ρ 6] := ha
  subst ha
  subst hg
  have r5 : (1981 : Int) ≤ ρ 5 ∧ ρ 5 ≤ 2000 := zRnA hr 5
  have w_0 : ¬ (ρ 5 + 20 ≤ 2000) := by omega
  have m0 : γ 0 15 0 3 = ρ 5 := zAllA hm 0
  have l0 : sn1 [1, ρ 6] (γ 0) 0 1 (γ 1) := hS1 _ _ _ _ _ (zAllA hl 0)
  show sn3 [ρ 0, ρ 1, ρ 2, ρ 3, ρ 4, ρ 5, ρ 6] (γ 0) 0 0 (γ 1)
  refine Eq.symm ?_
  show fn3 [ρ 0, ρ 1, ρ 2, ρ 3, ρ 4] (γ 0) = _
  unfold fn3
  refine zLV (ρ 0) rfl (zLV (ρ 1) rfl (zLV (ρ 2) rfl (zLV (ρ 3) rfl (zLV (ρ 4) rfl (zLE m0 (zIN w_0 (zLE (show fn1 [1] (γ 0) = (0, 1, γ 1) from l0.symm) ?_)))))))
  refine zLV (γ 1) rfl ?_
  rfl
theorem yn3 {S : Nat → zSpc} (hS1 : zIm S 1 sn1) (hS2 : zIm S 2 sn2) : ∀ x g o v gz, zSem uW uT w3_.2.2.2.1 w3_.2.2.1.1.length S q3 (fun i => q3a.getD i []) (zNA a3_) x g o v gz → sn3 x g o v gz := by
  intro a g o v gz h
  exact zSem_all (l0 := q3) (las := q3a) (S := S) (J := (fun _ _ _ => True)) (P := sn3 a g) (fun _ => (show zAll _ [q3_0, q3_1] from (zAll_c (vn3_0 hS1 hS2) (zAll_c (vn3_1 hS1 hS2) zAll_n)))) (fun _ => (show zAllI _ 0 [] from trivial)) h
theorem vn4_0 {S : Nat → zSpc} (hS1 : zIm S 1 sn1) {a : List Int} {g : rHp} : ∀ (ρ : Nat → Int) (γ : Nat → rHp), zO 3 S a g q4_0 ρ γ → zGl (fun _ _ _ => True) (sn4 a g) q4_0 ρ γ := by
  intro ρ γ h
  obtain ⟨ha, hg, hr, hf, hm, hc, hl⟩ := h
  have ha : a = [ρ 0, ρ 1, ρ 2] := ha
  subst ha
  subst hg
  have r0 : ((-2147483648) : Int) ≤ ρ 0 ∧ ρ 0 ≤ (-1) := zRnA hr 0
  have w_0 : ρ 0 < 0 := by omega
  have m0 : γ 0 15 0 3 = ρ 1 := zAllA hm 0
  have l0 : sn1 [1, ρ 2] (γ 0) 0 1 (γ 1) := hS1 _ _ _ _ _ (zAllA hl 0)
  show sn4 [ρ 0, ρ 1, ρ 2] (γ 0) 0 0 (γ 1)
  refine Eq.symm ?_
  show fn4 [ρ 0] (γ 0) = _
  unfold fn4
  refine zLV (ρ 0) rfl (zLE m0 (zIP w_0 (zLE (show fn1 [1] (γ 0) = (0, 1, γ 1) from l0.symm) (zLV (γ 1) rfl ?_))))
  rfl
theorem vn4_1 {S : Nat → zSpc} (hS1 : zIm S 1 sn1) {a : List Int} {g : rHp} : ∀ (ρ : Nat → Int) (γ : Nat → rHp), zO 3 S a g q4_1 ρ γ → zGl (fun _ _ _ => True) (sn4 a g) q4_1 ρ γ := by
  intro ρ γ h
  obtain ⟨ha, hg, hr, hf, hm, hc, hl⟩ := h
  have ha : a = [ρ 0, ρ 1, ρ 2] := ha
  subst ha
  subst hg
  have r0 : (0 : Int) ≤ ρ 0 ∧ ρ 0 ≤ 2147483647 := zRnA hr 0
  have f0 : (0 : Int) ≤ ρ 1 + -ρ 0 := zAllA hf 0
  obtain ⟨w_0, w_1⟩ : (¬ (ρ 0 < 0)) ∧ (ρ 0 ≤ ρ 1) := ⟨by omega, by omega⟩
  have m0 : γ 0 15 0 3 = ρ 1 := zAllA hm 0
  have c2 : γ 2 = rUp (γ 1) 15 0 3 (ρ 0) := And.right (zChA hc 0)
  have l0 : sn1 [0, ρ 2] (γ 0) 0 0 (γ 1) := hS1 _ _ _ _ _ (zAllA hl 0)
  show sn4 [ρ 0, ρ 1, ρ 2] (γ 0) 0 (ρ 0) (γ 2)
  refine Eq.symm ?_
  show fn4 [ρ 0] (γ 0) = _
  unfold fn4
  refine zLV (ρ 0) rfl (zLE m0 (zIN w_0 (zIP w_1 (zLE (show fn1 [0] (γ 0) = (0, 0, γ 1) from l0.symm) (zLV (γ 1) rfl (zLE c2.symm ?_))))))
  rfl
theorem vn4_2 {S : Nat → zSpc} (hS1 : zIm S 1 sn1) {a : List Int} {g : rHp} : ∀ (ρ : Nat → Int) (γ : Nat → rHp), zO 3 S a g q4_2 ρ γ → zGl (fun _ _ _ => True) (sn4 a g) q4_2 ρ γ := by
  intro ρ γ h
  obtain ⟨ha, hg, hr, hf, hm, hc, hl⟩ := h
  have ha : a = [ρ 0, ρ 1, ρ 2] := ha
  subst ha
  subst hg
  have r0 : (0 : Int) ≤ ρ 0 ∧ ρ 0 ≤ 2147483647 := zRnA hr 0
  have f0 : (0 : Int) ≤ -ρ 1 + ρ 0 + (-1) := zAllA hf 0
  obtain ⟨w_0, w_1⟩ : (¬ (ρ 0 < 0)) ∧ (¬ (ρ 0 ≤ ρ 1)) := ⟨by omega, by omega⟩
  have m0 : γ 0 15 0 3 = ρ 1 := zAllA hm 0
  have l0 : sn1 [1, ρ 2] (γ 0) 0 1 (γ 1) := hS1 _ _ _ _ _ (zAllA hl 0)
  show sn4 [ρ 0, ρ 1, ρ 2] (γ 0) 0 0 (γ 1)
  refine Eq.symm ?_
  show fn4 [ρ 0] (γ 0) = _
  unfold fn4
  refine zLV (ρ 0) rfl (zLE m0 (zIN w_0 (zIN w_1 (zLE (show fn1 [1] (γ 0) = (0, 1, γ 1) from l0.symm) (zLV (γ 1) rfl ?_)))))
  rfl
theorem yn4 {S : Nat → zSpc} (hS1 : zIm S 1 sn1) : ∀ x g o v gz, zSem uW uT w4_.2.2.2.1 w4_.2.2.1.1.length S q4 (fun i => q4a.getD i []) (zNA a4_) x g o v gz → sn4 x g o v gz := by
  intro a g o v gz h
  exact zSem_all (l0 := q4) (las := q4a) (S := S) (J := (fun _ _ _ => True)) (P := sn4 a g) (fun _ => (show zAll _ [q4_0, q4_1, q4_2] from (zAll_c (vn4_0 hS1) (zAll_c (vn4_1 hS1) (zAll_c (vn4_2 hS1) zAll_n))))) (fun _ => (show zAllI _ 0 [] from trivial)) h
theorem vn5_0 {S : Nat → zSpc}  {a : List Int} {g : rHp} : ∀ (ρ : Nat → Int) (γ : Nat → rHp), zO 3 S a g q5_0 ρ γ → zGl (fun _ _ _ => True) (sn5 a g) q5_0 ρ γ := by
  intro ρ γ h
  obtain ⟨ha, hg, hr, hf, hm, hc, hl⟩ := h
  have ha : a = [ρ 0, ρ 1, ρ 2] := ha
  subst ha
  subst hg
  have m0 : γ 0 15 0 3 = ρ 0 := zAllA hm 0
  have c1 : γ 1 = rUp (γ 0) 15 0 34 (ρ 0) := And.right (zChA hc 2)
  have c2 : γ 2 = rUp (γ 1) 15 0 3 0 := And.right (zChA hc 1)
  have c3 : γ 3 = rUp (γ 2) 15 0 35 0 := And.right (zChA hc 0)
  show sn5 [ρ 0, ρ 1, ρ 2] (γ 0) 0 0 (γ 3)
  refine Eq.symm ?_
  show fn5 [] (γ 0) = _
  unfold fn5
  refine zLE m0 (zLE c1.symm (zLE c2.symm (zLE c3.symm ?_)))
  rfl
theorem yn5 {S : Nat → zSpc}  : ∀ x g o v gz, zSem uW uT w5_.2.2.2.1 w5_.2.2.1.1.length S q5 (fun i => q5a.getD i []) (zNA a5_) x g o v gz → sn5 x g o v gz := by
  intro a g o v gz h
  exact zSem_all (l0 := q5) (las := q5a) (S := S) (J := (fun _ _ _ => True)) (P := sn5 a g) (fun _ => (show zAll _ [q5_0] from (zAll_c (vn5_0 ) zAll_n))) (fun _ => (show zAllI _ 0 [] from trivial)) h
theorem vn6_0 {S : Nat → zSpc}  {a : List Int} {g : rHp} : ∀ (ρ : Nat → Int) (γ : Nat → rHp), zO 2 S a g q6_0 ρ γ → zGl (fun _ _ _ => True) (sn6 a g) q6_0 ρ γ := by
  intro ρ γ h
  obtain ⟨ha, hg, hr, hf, hm, hc, hl⟩ := h
  have ha : a = [ρ 0, ρ 1] := ha
  subst ha
  subst hg
  have f0 : (0 : Int) ≤ -ρ 1 + ρ 0 := zAllA hf 0
  have w_0 : ρ 0 ≥ ρ 1 := by omega
  have m0 : γ 0 15 0 34 = ρ 1 := zAllA hm 0
  show sn6 [ρ 0, ρ 1] (γ 0) 0 (-1) (γ 0)
  refine Eq.symm ?_
  show fn6 [ρ 0] (γ 0) = _
  unfold fn6
  refine zLV (ρ 0) rfl (zLE m0 (zIP w_0 ?_))
  rfl
theorem vn6_1 {S : Nat → zSpc}  {a : List Int} {g : rHp} : ∀ (ρ : Nat → Int) (γ : Nat → rHp), zO 2 S a g q6_1 ρ γ → zGl (fun _ _ _ => True) (sn6 a g) q6_1 ρ γ := by
  intro ρ γ h
  obtain ⟨ha, hg, hr, hf, hm, hc, hl⟩ := h
  have ha : a = [ρ 0, ρ 1] := ha
  subst ha
  subst hg
  have f0 : (0 : Int) ≤ ρ 1 + -ρ 0 + (-1) := zAllA hf 0
  have w_0 : ¬ (ρ 0 ≥ ρ 1) := by omega
  have m0 : γ 0 15 0 34 = ρ 1 := zAllA hm 0
  have m1 : γ 0 59 0 (ρ 0) = ρ 2 := zAllA hm 1
  show sn6 [ρ 0, ρ 1] (γ 0) 0 (ρ 2) (γ 0)
  refine Eq.symm ?_
  show fn6 [ρ 0] (γ 0) = _
  unfold fn6
  refine zLV (ρ 0) rfl (zLE m0 (zIN w_0 (zLE m1 ?_)))
  rfl
theorem yn6 {S : Nat → zSpc}  : ∀ x g o v gz, zSem uW uT w6_.2.2.2.1 w6_.2.2.1.1.length S q6 (fun i => q6a.getD i []) (zNA a6_) x g o v gz → sn6 x g o v gz := by
  intro a g o v gz h
  exact zSem_all (l0 := q6) (las := q6a) (S := S) (J := (fun _ _ _ => True)) (P := sn6 a g) (fun _ => (show zAll _ [q6_0, q6_1] from (zAll_c (vn6_0 ) (zAll_c (vn6_1 ) zAll_n)))) (fun _ => (show zAllI _ 0 [] from trivial)) h
theorem vn7_0 {S : Nat → zSpc} (hS6 : zIm S 6 sn6) {a : List Int} {g : rHp} : ∀ (ρ : Nat → Int) (γ : Nat → rHp), zO 2 S a g q7_0 ρ γ → zGl (fun i vs g1 => jn7 a g i vs g1) (sn7 a g) q7_0 ρ γ := by
  intro ρ γ h
  obtain ⟨ha, hg, hr, hf, hm, hc, hl⟩ := h
  have ha : a = [ρ 0, ρ 1] := ha
  subst ha
  subst hg
  have r2 : (32 : Int) ≤ ρ 2 ∧ ρ 2 ≤ 32 := zRnA hr 2
  have f0 : (0 : Int) ≤ ρ 1 + -ρ 0 + (-1) := zAllA hf 0
  obtain ⟨w_0, w_1⟩ : (0 ≤ ρ 1 + -ρ 0 + (-1)) ∧ (ρ 2 = 32) := ⟨by omega, by omega⟩
  have m0 : γ 0 15 0 35 = ρ 0 := zAllA hm 0
  have m1 : γ 0 15 0 34 = ρ 1 := zAllA hm 1
  have c2 : γ 2 = rUp (γ 1) 15 0 35 (ρ 0 + 1) := And.right (zChA hc 0)
  have l0 : sn6 [ρ 0, ρ 1] (γ 0) 0 (ρ 2) (γ 1) := hS6 _ _ _ _ _ (zAllA hl 0)
  show jn7 [ρ 0, ρ 1] (γ 0) 0 [ρ 0, ρ 1, ρ 0 + 1] (γ 2)
  have hD : dn7 [] (γ 0) = .inl (0, [], γ 2) := by
    unfold dn7
    refine zLE m0 (zLE m1 (zLE (show fn6 [ρ 0] (γ 0) = (0, ρ 2, γ 1) from l0.symm) (zLV (γ 1) rfl (zIP w_0 (zLV (ρ 2) rfl (zIP w_1 (zLE c2.symm ?_)))))))
    rfl
  exact zGoo_to hD
theorem vn7_1 {S : Nat → zSpc} (hS6 : zIm S 6 sn6) {a : List Int} {g : rHp} : ∀ (ρ : Nat → Int) (γ : Nat → rHp), zO 2 S a g q7_1 ρ γ → zGl (fun i vs g1 => jn7 a g i vs g1) (sn7 a g) q7_1 ρ γ := by
  intro ρ γ h
  obtain ⟨ha, hg, hr, hf, hm, hc, hl⟩ := h
  have ha : a = [ρ 0, ρ 1] := ha
  subst ha
  subst hg
  have r2 : ((-128) : Int) ≤ ρ 2 ∧ ρ 2 ≤ 127 := zRnA hr 2
  have r3 : ((-128) : Int) ≤ ρ 3 ∧ ρ 3 ≤ 127 := zRnA hr 3
  have f0 : (0 : Int) ≤ ρ 1 + -ρ 0 + (-1) := zAllA hf 0
  have w_0 : 0 ≤ ρ 1 + -ρ 0 + (-1) := by omega
  have m0 : γ 0 15 0 35 = ρ 0 := zAllA hm 0
  have m1 : γ 0 15 0 34 = ρ 1 := zAllA hm 1
  have l0 : sn6 [ρ 0, ρ 1] (γ 0) 0 (ρ 2) (γ 1) := hS6 _ _ _ _ _ (zAllA hl 0)
  have l1 : ρ 2 ≠ 32 := zAllA hl 1
  have l2 : sn6 [ρ 0, ρ 1] (γ 1) 0 (ρ 3) (γ 2) := hS6 _ _ _ _ _ (zAllA hl 2)
  have l3 : ρ 3 ≠ 10 := zAllA hl 3
  obtain ⟨wl_0, wl_1⟩ : (¬ (ρ 2 = 32)) ∧ (ρ 3 ≠ 10) := ⟨by omega, by omega⟩
  show sn7 [ρ 0, ρ 1] (γ 0) 0 0 (γ 2)
  have hD : dn7 [] (γ 0) = .inr (0, 0, γ 2) := by
    unfold dn7
    refine zLE m0 (zLE m1 (zLE (show fn6 [ρ 0] (γ 0) = (0, ρ 2, γ 1) from l0.symm) (zLV (γ 1) rfl (zIP w_0 (zLV (ρ 2) rfl (zIN wl_0 (zLE (show fn6 [ρ 0] (γ 1) = (0, ρ 3, γ 2) from l2.symm) ?_)))))))
    refine zLV (γ 2) rfl (zLV (ρ 3) rfl (zIP wl_1 ?_))
    rfl
  exact zGoo_end hD
theorem vn7_2 {S : Nat → zSpc} (hS6 : zIm S 6 sn6) {a : List Int} {g : rHp} : ∀ (ρ : Nat → Int) (γ : Nat → rHp), zO 2 S a g q7_2 ρ γ → zGl (fun i vs g1 => jn7 a g i vs g1) (sn7 a g) q7_2 ρ γ := by
  intro ρ γ h
  obtain ⟨ha, hg, hr, hf, hm, hc, hl⟩ := h
  have ha : a = [ρ 0, ρ 1] := ha
  subst ha
  subst hg
  have r2 : ((-128) : Int) ≤ ρ 2 ∧ ρ 2 ≤ 127 := zRnA hr 2
  have r3 : (10 : Int) ≤ ρ 3 ∧ ρ 3 ≤ 10 := zRnA hr 3
  have f0 : (0 : Int) ≤ ρ 1 + -ρ 0 + (-1) := zAllA hf 0
  obtain ⟨w_0, w_1⟩ : (0 ≤ ρ 1 + -ρ 0 + (-1)) ∧ (¬ (ρ 3 ≠ 10)) := ⟨by omega, by omega⟩
  have m0 : γ 0 15 0 35 = ρ 0 := zAllA hm 0
  have m1 : γ 0 15 0 34 = ρ 1 := zAllA hm 1
  have c3 : γ 3 = rUp (γ 2) 15 0 35 (ρ 0 + 1) := And.right (zChA hc 0)
  have l0 : sn6 [ρ 0, ρ 1] (γ 0) 0 (ρ 2) (γ 1) := hS6 _ _ _ _ _ (zAllA hl 0)
  have l1 : ρ 2 ≠ 32 := zAllA hl 1
  have l2 : sn6 [ρ 0, ρ 1] (γ 1) 0 (ρ 3) (γ 2) := hS6 _ _ _ _ _ (zAllA hl 2)
  have wl_0 : ¬ (ρ 2 = 32) := by omega
  show jn7 [ρ 0, ρ 1] (γ 0) 0 [ρ 0, ρ 1, ρ 0 + 1] (γ 3)
  have hD : dn7 [] (γ 0) = .inl (0, [], γ 3) := by
    unfold dn7
    refine zLE m0 (zLE m1 (zLE (show fn6 [ρ 0] (γ 0) = (0, ρ 2, γ 1) from l0.symm) (zLV (γ 1) rfl (zIP w_0 (zLV (ρ 2) rfl (zIN wl_0 (zLE (show fn6 [ρ 0] (γ 1) = (0, ρ 3, γ 2) from l2.symm) ?_)))))))
    refine zLV (γ 2) rfl (zLV (ρ 3) rfl (zIN w_1 (zLE c3.symm ?_)))
    rfl
  exact zGoo_to hD
theorem vn7_3 {S : Nat → zSpc} (hS6 : zIm S 6 sn6) {a : List Int} {g : rHp} : ∀ (ρ : Nat → Int) (γ : Nat → rHp), zO 2 S a g q7_3 ρ γ → zGl (fun i vs g1 => jn7 a g i vs g1) (sn7 a g) q7_3 ρ γ := by
  intro ρ γ h
  obtain ⟨ha, hg, hr, hf, hm, hc, hl⟩ := h
  have ha : a = [ρ 0, ρ 1] := ha
  subst ha
  subst hg
  have f0 : (0 : Int) ≤ -ρ 1 + ρ 0 := zAllA hf 0
  have w_0 : ¬ (0 ≤ ρ 1 + -ρ 0 + (-1)) := by omega
  have m0 : γ 0 15 0 35 = ρ 0 := zAllA hm 0
  have m1 : γ 0 15 0 34 = ρ 1 := zAllA hm 1
  have l0 : sn6 [ρ 0, ρ 1] (γ 0) 0 (-1) (γ 1) := hS6 _ _ _ _ _ (zAllA hl 0)
  have l1 : sn6 [ρ 0, ρ 1] (γ 1) 0 (-1) (γ 2) := hS6 _ _ _ _ _ (zAllA hl 1)
  show sn7 [ρ 0, ρ 1] (γ 0) 0 0 (γ 2)
  have hD : dn7 [] (γ 0) = .inr (0, 0, γ 2) := by
    unfold dn7
    refine zLE m0 (zLE m1 (zLE (show fn6 [ρ 0] (γ 0) = (0, (-1), γ 1) from l0.symm) (zLV (γ 1) rfl (zIN w_0 (zLE (show fn6 [ρ 0] (γ 1) = (0, (-1), γ 2) from l1.symm) (zLV (γ 2) rfl ?_))))))
    rfl
  exact zGoo_end hD
theorem vn7a0_0 {S : Nat → zSpc} (hS6 : zIm S 6 sn6) {a : List Int} {g : rHp} : ∀ (ρ : Nat → Int) (γ : Nat → rHp), jn7 a g 0 (zAg (zNA a7_ 0) ρ) (γ 1) → zO 2 S a g q7a0_0 ρ γ → zGl (fun i vs g1 => jn7 a g i vs g1) (sn7 a g) q7a0_0 ρ γ := by
  intro ρ γ hJ h
  obtain ⟨ha, hg, hr, hf, hm, hc, hl⟩ := h
  have ha : a = [ρ 0, ρ 1] := ha
  subst ha
  subst hg
  have hJ : jn7 [ρ 0, ρ 1] (γ 0) 0 [ρ 0, ρ 1, ρ 2] (γ 1) := hJ
  have r3 : (32 : Int) ≤ ρ 3 ∧ ρ 3 ≤ 32 := zRnA hr 3
  have f0 : (0 : Int) ≤ -ρ 2 + ρ 1 + (-1) := zAllA hf 0
  obtain ⟨w_0, w_1⟩ : (0 ≤ -ρ 2 + ρ 1 + (-1)) ∧ (ρ 3 = 32) := ⟨by omega, by omega⟩
  have m1 : γ 0 15 0 34 = ρ 1 := zAllA hm 1
  have m2 : γ 1 15 0 35 = ρ 2 := zAllA hm 2
  have c3 : γ 3 = rUp (γ 2) 15 0 35 (ρ 2 + 1) := And.right (zChA hc 0)
  have l0 : sn6 [ρ 2, ρ 1] (γ 1) 0 (ρ 3) (γ 2) := hS6 _ _ _ _ _ (zAllA hl 0)
  show jn7 [ρ 0, ρ 1] (γ 0) 0 [ρ 0, ρ 1, ρ 2 + 1] (γ 3)
  have hD : en7 (γ 0) (0, [], γ 1) = .inl (0, [], γ 3) := by
    unfold en7
    refine zIP (show (0 : Nat) = 0 by decide) (zLV (γ 1) rfl (zLE m1 (zLE m2 (zLE (show fn6 [ρ 2] (γ 1) = (0, ρ 3, γ 2) from l0.symm) (zLV (γ 2) rfl (zIP w_0 (zLV (ρ 3) rfl ?_)))))))
    refine zIP w_1 (zLE c3.symm ?_)
    rfl
  exact zGoo_ato hJ hD
theorem vn7a0_1 {S : Nat → zSpc} (hS6 : zIm S 6 sn6) {a : List Int} {g : rHp} : ∀ (ρ : Nat → Int) (γ : Nat → rHp), jn7 a g 0 (zAg (zNA a7_ 0) ρ) (γ 1) → zO 2 S a g q7a0_1 ρ γ → zGl (fun i vs g1 => jn7 a g i vs g1) (sn7 a g) q7a0_1 ρ γ := by
  intro ρ γ hJ h
  obtain ⟨ha, hg, hr, hf, hm, hc, hl⟩ := h
  have ha : a = [ρ 0, ρ 1] := ha
  subst ha
  subst hg
  have hJ : jn7 [ρ 0, ρ 1] (γ 0) 0 [ρ 0, ρ 1, ρ 2] (γ 1) := hJ
  have r3 : ((-128) : Int) ≤ ρ 3 ∧ ρ 3 ≤ 127 := zRnA hr 3
  have r4 : ((-128) : Int) ≤ ρ 4 ∧ ρ 4 ≤ 127 := zRnA hr 4
  have f0 : (0 : Int) ≤ -ρ 2 + ρ 1 + (-1) := zAllA hf 0
  have w_0 : 0 ≤ -ρ 2 + ρ 1 + (-1) := by omega
  have m1 : γ 0 15 0 34 = ρ 1 := zAllA hm 1
  have m2 : γ 1 15 0 35 = ρ 2 := zAllA hm 2
  have l0 : sn6 [ρ 2, ρ 1] (γ 1) 0 (ρ 3) (γ 2) := hS6 _ _ _ _ _ (zAllA hl 0)
  have l1 : ρ 3 ≠ 32 := zAllA hl 1
  have l2 : sn6 [ρ 2, ρ 1] (γ 2) 0 (ρ 4) (γ 3) := hS6 _ _ _ _ _ (zAllA hl 2)
  have l3 : ρ 4 ≠ 10 := zAllA hl 3
  obtain ⟨wl_0, wl_1⟩ : (¬ (ρ 3 = 32)) ∧ (ρ 4 ≠ 10) := ⟨by omega, by omega⟩
  show sn7 [ρ 0, ρ 1] (γ 0) 0 0 (γ 3)
  have hD : en7 (γ 0) (0, [], γ 1) = .inr (0, 0, γ 3) := by
    unfold en7
    refine zIP (show (0 : Nat) = 0 by decide) (zLV (γ 1) rfl (zLE m1 (zLE m2 (zLE (show fn6 [ρ 2] (γ 1) = (0, ρ 3, γ 2) from l0.symm) (zLV (γ 2) rfl (zIP w_0 (zLV (ρ 3) rfl ?_)))))))
    refine zIN wl_0 (zLE (show fn6 [ρ 2] (γ 2) = (0, ρ 4, γ 3) from l2.symm) (zLV (γ 3) rfl (zLV (ρ 4) rfl (zIP wl_1 ?_))))
    rfl
  exact zGoo_aend hJ hD
theorem vn7a0_2 {S : Nat → zSpc} (hS6 : zIm S 6 sn6) {a : List Int} {g : rHp} : ∀ (ρ : Nat → Int) (γ : Nat → rHp), jn7 a g 0 (zAg (zNA a7_ 0) ρ) (γ 1) → zO 2 S a g q7a0_2 ρ γ → zGl (fun i vs g1 => jn7 a g i vs g1) (sn7 a g) q7a0_2 ρ γ := by
  intro ρ γ hJ h
  obtain ⟨ha, hg, hr, hf, hm, hc, hl⟩ := h
  have ha : a = [ρ 0, ρ 1] := ha
  subst ha
  subst hg
  have hJ : jn7 [ρ 0, ρ 1] (γ 0) 0 [ρ 0, ρ 1, ρ 2] (γ 1) := hJ
  have r3 : ((-128) : Int) ≤ ρ 3 ∧ ρ 3 ≤ 127 := zRnA hr 3
  have r4 : (10 : Int) ≤ ρ 4 ∧ ρ 4 ≤ 10 := zRnA hr 4
  have f0 : (0 : Int) ≤ -ρ 2 + ρ 1 + (-1) := zAllA hf 0
  obtain ⟨w_0, w_1⟩ : (0 ≤ -ρ 2 + ρ 1 + (-1)) ∧ (¬ (ρ 4 ≠ 10)) := ⟨by omega, by omega⟩
  have m1 : γ 0 15 0 34 = ρ 1 := zAllA hm 1
  have m2 : γ 1 15 0 35 = ρ 2 := zAllA hm 2
  have c4 : γ 4 = rUp (γ 3) 15 0 35 (ρ 2 + 1) := And.right (zChA hc 0)
  have l0 : sn6 [ρ 2, ρ 1] (γ 1) 0 (ρ 3) (γ 2) := hS6 _ _ _ _ _ (zAllA hl 0)
  have l1 : ρ 3 ≠ 32 := zAllA hl 1
  have l2 : sn6 [ρ 2, ρ 1] (γ 2) 0 (ρ 4) (γ 3) := hS6 _ _ _ _ _ (zAllA hl 2)
  have wl_0 : ¬ (ρ 3 = 32) := by omega
  show jn7 [ρ 0, ρ 1] (γ 0) 0 [ρ 0, ρ 1, ρ 2 + 1] (γ 4)
  have hD : en7 (γ 0) (0, [], γ 1) = .inl (0, [], γ 4) := by
    unfold en7
    refine zIP (show (0 : Nat) = 0 by decide) (zLV (γ 1) rfl (zLE m1 (zLE m2 (zLE (show fn6 [ρ 2] (γ 1) = (0, ρ 3, γ 2) from l0.symm) (zLV (γ 2) rfl (zIP w_0 (zLV (ρ 3) rfl ?_)))))))
    refine zIN wl_0 (zLE (show fn6 [ρ 2] (γ 2) = (0, ρ 4, γ 3) from l2.symm) (zLV (γ 3) rfl (zLV (ρ 4) rfl (zIN w_1 (zLE c4.symm ?_)))))
    rfl
  exact zGoo_ato hJ hD
theorem vn7a0_3 {S : Nat → zSpc} (hS6 : zIm S 6 sn6) {a : List Int} {g : rHp} : ∀ (ρ : Nat → Int) (γ : Nat → rHp), jn7 a g 0 (zAg (zNA a7_ 0) ρ) (γ 1) → zO 2 S a g q7a0_3 ρ γ → zGl (fun i vs g1 => jn7 a g i vs g1) (sn7 a g) q7a0_3 ρ γ := by
  intro ρ γ hJ h
  obtain ⟨ha, hg, hr, hf, hm, hc, hl⟩ := h
  have ha : a = [ρ 0, ρ 1] := ha
  subst ha
  subst hg
  have hJ : jn7 [ρ 0, ρ 1] (γ 0) 0 [ρ 0, ρ 1, ρ 2] (γ 1) := hJ
  have f0 : (0 : Int) ≤ ρ 2 + -ρ 1 := zAllA hf 0
  have w_0 : ¬ (0 ≤ -ρ 2 + ρ 1 + (-1)) := by omega
  have m1 : γ 0 15 0 34 = ρ 1 := zAllA hm 1
  have m2 : γ 1 15 0 35 = ρ 2 := zAllA hm 2
  have l0 : sn6 [ρ 2, ρ 1] (γ 1) 0 (-1) (γ 2) := hS6 _ _ _ _ _ (zAllA hl 0)
  have l1 : sn6 [ρ 2, ρ 1] (γ 2) 0 (-1) (γ 3) := hS6 _ _ _ _ _ (zAllA hl 1)
  show sn7 [ρ 0, ρ 1] (γ 0) 0 0 (γ 3)
  have hD : en7 (γ 0) (0, [], γ 1) = .inr (0, 0, γ 3) := by
    unfold en7
    refine zIP (show (0 : Nat) = 0 by decide) (zLV (γ 1) rfl (zLE m1 (zLE m2 (zLE (show fn6 [ρ 2] (γ 1) = (0, (-1), γ 2) from l0.symm) (zLV (γ 2) rfl (zIN w_0 (zLE (show fn6 [ρ 2] (γ 2) = (0, (-1), γ 3) from l1.symm) ?_)))))))
    refine zLV (γ 3) rfl ?_
    rfl
  exact zGoo_aend hJ hD
theorem yn7 {S : Nat → zSpc} (hS6 : zIm S 6 sn6) : ∀ x g o v gz, zSem uW uT w7_.2.2.2.1 w7_.2.2.1.1.length S q7 (fun i => q7a.getD i []) (zNA a7_) x g o v gz → sn7 x g o v gz := by
  intro a g o v gz h
  exact zSem_all (l0 := q7) (las := q7a) (S := S) (J := (fun i vs g1 => jn7 a g i vs g1)) (P := sn7 a g) (fun _ => (show zAll _ [q7_0, q7_1, q7_2, q7_3] from (zAll_c (vn7_0 hS6) (zAll_c (vn7_1 hS6) (zAll_c (vn7_2 hS6) (zAll_c (vn7_3 hS6) zAll_n)))))) (fun _ => (show zAllI _ 0 [q7a0] from ⟨(show zAll _ [q7a0_0, q7a0_1, q7a0_2, q7a0_3] from (zAll_c (vn7a0_0 hS6) (zAll_c (vn7a0_1 hS6) (zAll_c (vn7a0_2 hS6) (zAll_c (vn7a0_3 hS6) zAll_n))))), trivial⟩)) h
theorem vn8_0 {S : Nat → zSpc}  {a : List Int} {g : rHp} : ∀ (ρ : Nat → Int) (γ : Nat → rHp), zO 3 S a g q8_0 ρ γ → zGl (fun _ _ _ => True) (sn8 a g) q8_0 ρ γ := by
  intro ρ γ h
  obtain ⟨ha, hg, hr, hf, hm, hc, hl⟩ := h
  have ha : a = [ρ 0, ρ 1, ρ 2] := ha
  subst ha
  subst hg
  have f0 : (0 : Int) ≤ -ρ 1 + ρ 0 := zAllA hf 0
  have w_0 : ρ 0 ≥ ρ 1 := by omega
  have m0 : γ 0 15 0 34 = ρ 1 := zAllA hm 0
  have c1 : γ 1 = rUp (γ 0) 15 0 36 (ρ 1) := And.right (zChA hc 0)
  show sn8 [ρ 0, ρ 1, ρ 2] (γ 0) 0 0 (γ 1)
  refine Eq.symm ?_
  show fn8 [ρ 0] (γ 0) = _
  unfold fn8
  refine zLV (ρ 0) rfl (zLE m0 (zIP w_0 (zLE c1.symm ?_)))
  rfl
theorem vn8_1 {S : Nat → zSpc}  {a : List Int} {g : rHp} : ∀ (ρ : Nat → Int) (γ : Nat → rHp), zO 3 S a g q8_1 ρ γ → zGl (fun _ _ _ => True) (sn8 a g) q8_1 ρ γ := by
  intro ρ γ h
  obtain ⟨ha, hg, hr, hf, hm, hc, hl⟩ := h
  have ha : a = [ρ 0, ρ 1, ρ 2] := ha
  subst ha
  subst hg
  have f0 : (0 : Int) ≤ ρ 1 + -ρ 0 + (-1) := zAllA hf 0
  have w_0 : ¬ (ρ 0 ≥ ρ 1) := by omega
  have m0 : γ 0 15 0 34 = ρ 1 := zAllA hm 0
  have c1 : γ 1 = rUp (γ 0) 15 0 36 (ρ 0) := And.right (zChA hc 0)
  show sn8 [ρ 0, ρ 1, ρ 2] (γ 0) 0 0 (γ 1)
  refine Eq.symm ?_
  show fn8 [ρ 0] (γ 0) = _
  unfold fn8
  refine zLV (ρ 0) rfl (zLE m0 (zIN w_0 (zLE c1.symm ?_)))
  rfl
theorem yn8 {S : Nat → zSpc}  : ∀ x g o v gz, zSem uW uT w8_.2.2.2.1 w8_.2.2.1.1.length S q8 (fun i => q8a.getD i []) (zNA a8_) x g o v gz → sn8 x g o v gz := by
  intro a g o v gz h
  exact zSem_all (l0 := q8) (las := q8a) (S := S) (J := (fun _ _ _ => True)) (P := sn8 a g) (fun _ => (show zAll _ [q8_0, q8_1] from (zAll_c (vn8_0 ) (zAll_c (vn8_1 ) zAll_n)))) (fun _ => (show zAllI _ 0 [] from trivial)) h
theorem vn9_0 {S : Nat → zSpc}  {a : List Int} {g : rHp} : ∀ (ρ : Nat → Int) (γ : Nat → rHp), zO 1 S a g q9_0 ρ γ → zGl (fun _ _ _ => True) (sn9 a g) q9_0 ρ γ := by
  intro ρ γ h
  obtain ⟨ha, hg, hr, hf, hm, hc, hl⟩ := h
  have ha : a = [ρ 0] := ha
  subst ha
  subst hg
  have r0 : ((-2147483648) : Int) ≤ ρ 0 ∧ ρ 0 ≤ 96 := zRnA hr 0
  have w_0 : ρ 0 < 97 := by omega
  show sn9 [ρ 0] (γ 0) 0 0 (γ 0)
  refine Eq.symm ?_
  show fn9 [ρ 0] (γ 0) = _
  unfold fn9
  refine zLV (ρ 0) rfl (zIP w_0 ?_)
  rfl
theorem vn9_1 {S : Nat → zSpc}  {a : List Int} {g : rHp} : ∀ (ρ : Nat → Int) (γ : Nat → rHp), zO 1 S a g q9_1 ρ γ → zGl (fun _ _ _ => True) (sn9 a g) q9_1 ρ γ := by
  intro ρ γ h
  obtain ⟨ha, hg, hr, hf, hm, hc, hl⟩ := h
  have ha : a = [ρ 0] := ha
  subst ha
  subst hg
  have r0 : (123 : Int) ≤ ρ 0 ∧ ρ 0 ≤ 2147483647 := zRnA hr 0
  obtain ⟨w_0, w_1⟩ : (¬ (ρ 0 < 97)) ∧ (ρ 0 > 122) := ⟨by omega, by omega⟩
  show sn9 [ρ 0] (γ 0) 0 0 (γ 0)
  refine Eq.symm ?_
  show fn9 [ρ 0] (γ 0) = _
  unfold fn9
  refine zLV (ρ 0) rfl (zIN w_0 (zIP w_1 ?_))
  rfl
theorem vn9_2 {S : Nat → zSpc}  {a : List Int} {g : rHp} : ∀ (ρ : Nat → Int) (γ : Nat → rHp), zO 1 S a g q9_2 ρ γ → zGl (fun _ _ _ => True) (sn9 a g) q9_2 ρ γ := by
  intro ρ γ h
  obtain ⟨ha, hg, hr, hf, hm, hc, hl⟩ := h
  have ha : a = [ρ 0] := ha
  subst ha
  subst hg
  have r0 : (97 : Int) ≤ ρ 0 ∧ ρ 0 ≤ 122 := zRnA hr 0
  obtain ⟨w_0, w_1⟩ : (¬ (ρ 0 < 97)) ∧ (¬ (ρ 0 > 122)) := ⟨by omega, by omega⟩
  show sn9 [ρ 0] (γ 0) 0 1 (γ 0)
  refine Eq.symm ?_
  show fn9 [ρ 0] (γ 0) = _
  unfold fn9
  refine zLV (ρ 0) rfl (zIN w_0 (zIN w_1 ?_))
  rfl
theorem yn9 {S : Nat → zSpc}  : ∀ x g o v gz, zSem uW uT w9_.2.2.2.1 w9_.2.2.1.1.length S q9 (fun i => q9a.getD i []) (zNA a9_) x g o v gz → sn9 x g o v gz := by
  intro a g o v gz h
  exact zSem_all (l0 := q9) (las := q9a) (S := S) (J := (fun _ _ _ => True)) (P := sn9 a g) (fun _ => (show zAll _ [q9_0, q9_1, q9_2] from (zAll_c (vn9_0 ) (zAll_c (vn9_1 ) (zAll_c (vn9_2 ) zAll_n))))) (fun _ => (show zAllI _ 0 [] from trivial)) h
theorem vn10_0 {S : Nat → zSpc}  {a : List Int} {g : rHp} : ∀ (ρ : Nat → Int) (γ : Nat → rHp), zO 1 S a g q10_0 ρ γ → zGl (fun _ _ _ => True) (sn10 a g) q10_0 ρ γ := by
  intro ρ γ h
  obtain ⟨ha, hg, hr, hf, hm, hc, hl⟩ := h
  have ha : a = [ρ 0] := ha
  subst ha
  subst hg
  have r0 : ((-2147483648) : Int) ≤ ρ 0 ∧ ρ 0 ≤ 64 := zRnA hr 0
  have w_0 : ρ 0 < 65 := by omega
  show sn10 [ρ 0] (γ 0) 0 0 (γ 0)
  refine Eq.symm ?_
  show fn10 [ρ 0] (γ 0) = _
  unfold fn10
  refine zLV (ρ 0) rfl (zIP w_0 ?_)
  rfl
theorem vn10_1 {S : Nat → zSpc}  {a : List Int} {g : rHp} : ∀ (ρ : Nat → Int) (γ : Nat → rHp), zO 1 S a g q10_1 ρ γ → zGl (fun _ _ _ => True) (sn10 a g) q10_1 ρ γ := by
  intro ρ γ h
  obtain ⟨ha, hg, hr, hf, hm, hc, hl⟩ := h
  have ha : a = [ρ 0] := ha
  subst ha
  subst hg
  have r0 : (91 : Int) ≤ ρ 0 ∧ ρ 0 ≤ 2147483647 := zRnA hr 0
  obtain ⟨w_0, w_1⟩ : (¬ (ρ 0 < 65)) ∧ (ρ 0 > 90) := ⟨by omega, by omega⟩
  show sn10 [ρ 0] (γ 0) 0 0 (γ 0)
  refine Eq.symm ?_
  show fn10 [ρ 0] (γ 0) = _
  unfold fn10
  refine zLV (ρ 0) rfl (zIN w_0 (zIP w_1 ?_))
  rfl
theorem vn10_2 {S : Nat → zSpc}  {a : List Int} {g : rHp} : ∀ (ρ : Nat → Int) (γ : Nat → rHp), zO 1 S a g q10_2 ρ γ → zGl (fun _ _ _ => True) (sn10 a g) q10_2 ρ γ := by
  intro ρ γ h
  obtain ⟨ha, hg, hr, hf, hm, hc, hl⟩ := h
  have ha : a = [ρ 0] := ha
  subst ha
  subst hg
  have r0 : (65 : Int) ≤ ρ 0 ∧ ρ 0 ≤ 90 := zRnA hr 0
  obtain ⟨w_0, w_1⟩ : (¬ (ρ 0 < 65)) ∧ (¬ (ρ 0 > 90)) := ⟨by omega, by omega⟩
  show sn10 [ρ 0] (γ 0) 0 1 (γ 0)
  refine Eq.symm ?_
  show fn10 [ρ 0] (γ 0) = _
  unfold fn10
  refine zLV (ρ 0) rfl (zIN w_0 (zIN w_1 ?_))
  rfl
theorem yn10 {S : Nat → zSpc}  : ∀ x g o v gz, zSem uW uT w10_.2.2.2.1 w10_.2.2.1.1.length S q10 (fun i => q10a.getD i []) (zNA a10_) x g o v gz → sn10 x g o v gz := by
  intro a g o v gz h
  exact zSem_all (l0 := q10) (las := q10a) (S := S) (J := (fun _ _ _ => True)) (P := sn10 a g) (fun _ => (show zAll _ [q10_0, q10_1, q10_2] from (zAll_c (vn10_0 ) (zAll_c (vn10_1 ) (zAll_c (vn10_2 ) zAll_n))))) (fun _ => (show zAllI _ 0 [] from trivial)) h
theorem vn11_0 {S : Nat → zSpc}  {a : List Int} {g : rHp} : ∀ (ρ : Nat → Int) (γ : Nat → rHp), zO 1 S a g q11_0 ρ γ → zGl (fun _ _ _ => True) (sn11 a g) q11_0 ρ γ := by
  intro ρ γ h
  obtain ⟨ha, hg, hr, hf, hm, hc, hl⟩ := h
  have ha : a = [ρ 0] := ha
  subst ha
  subst hg
  have r0 : ((-2147483648) : Int) ≤ ρ 0 ∧ ρ 0 ≤ 47 := zRnA hr 0
  have w_0 : ρ 0 < 48 := by omega
  show sn11 [ρ 0] (γ 0) 0 0 (γ 0)
  refine Eq.symm ?_
  show fn11 [ρ 0] (γ 0) = _
  unfold fn11
  refine zLV (ρ 0) rfl (zIP w_0 ?_)
  rfl
theorem vn11_1 {S : Nat → zSpc}  {a : List Int} {g : rHp} : ∀ (ρ : Nat → Int) (γ : Nat → rHp), zO 1 S a g q11_1 ρ γ → zGl (fun _ _ _ => True) (sn11 a g) q11_1 ρ γ := by
  intro ρ γ h
  obtain ⟨ha, hg, hr, hf, hm, hc, hl⟩ := h
  have ha : a = [ρ 0] := ha
  subst ha
  subst hg
  have r0 : (58 : Int) ≤ ρ 0 ∧ ρ 0 ≤ 2147483647 := zRnA hr 0
  obtain ⟨w_0, w_1⟩ : (¬ (ρ 0 < 48)) ∧ (ρ 0 > 57) := ⟨by omega, by omega⟩
  show sn11 [ρ 0] (γ 0) 0 0 (γ 0)
  refine Eq.symm ?_
  show fn11 [ρ 0] (γ 0) = _
  unfold fn11
  refine zLV (ρ 0) rfl (zIN w_0 (zIP w_1 ?_))
  rfl
theorem vn11_2 {S : Nat → zSpc}  {a : List Int} {g : rHp} : ∀ (ρ : Nat → Int) (γ : Nat → rHp), zO 1 S a g q11_2 ρ γ → zGl (fun _ _ _ => True) (sn11 a g) q11_2 ρ γ := by
  intro ρ γ h
  obtain ⟨ha, hg, hr, hf, hm, hc, hl⟩ := h
  have ha : a = [ρ 0] := ha
  subst ha
  subst hg
  have r0 : (48 : Int) ≤ ρ 0 ∧ ρ 0 ≤ 57 := zRnA hr 0
  obtain ⟨w_0, w_1⟩ : (¬ (ρ 0 < 48)) ∧ (¬ (ρ 0 > 57)) := ⟨by omega, by omega⟩
  show sn11 [ρ 0] (γ 0) 0 1 (γ 0)
  refine Eq.symm ?_
  show fn11 [ρ 0] (γ 0) = _
  unfold fn11
  refine zLV (ρ 0) rfl (zIN w_0 (zIN w_1 ?_))
  rfl
theorem yn11 {S : Nat → zSpc}  : ∀ x g o v gz, zSem uW uT w11_.2.2.2.1 w11_.2.2.1.1.length S q11 (fun i => q11a.getD i []) (zNA a11_) x g o v gz → sn11 x g o v gz := by
  intro a g o v gz h
  exact zSem_all (l0 := q11) (las := q11a) (S := S) (J := (fun _ _ _ => True)) (P := sn11 a g) (fun _ => (show zAll _ [q11_0, q11_1, q11_2] from (zAll_c (vn11_0 ) (zAll_c (vn11_1 ) (zAll_c (vn11_2 ) zAll_n))))) (fun _ => (show zAllI _ 0 [] from trivial)) h
theorem vn12_0 {S : Nat → zSpc} (hS6 : zIm S 6 sn6) (hS8 : zIm S 8 sn8) (hS9 : zIm S 9 sn9) (hS11 : zIm S 11 sn11) {a : List Int} {g : rHp} : ∀ (ρ : Nat → Int) (γ : Nat → rHp), zO 5 S a g q12_0 ρ γ → zGl (fun i vs g1 => jn12 a g i vs g1) (sn12 a g) q12_0 ρ γ := by
  intro ρ γ h
  obtain ⟨ha, hg, hr, hf, hm, hc, hl⟩ := h
  have ha : a = [ρ 0, ρ 1, ρ 2, ρ 3, ρ 4] := ha
  subst ha
  subst hg
  have m0 : γ 0 15 0 35 = ρ 0 := zAllA hm 0
  have c1 : γ 1 = rUp (γ 0) 15 0 37 (ρ 0) := And.right (zChA hc 0)
  show jn12 [ρ 0, ρ 1, ρ 2, ρ 3, ρ 4] (γ 0) 0 [ρ 0, ρ 1, ρ 2, ρ 3, ρ 4, ρ 0 + 1] (γ 1)
  have hD : dn12 [] (γ 0) = .inl (0, [ρ 0 + 1], γ 1) := by
    unfold dn12
    refine zLE m0 (zLE c1.symm ?_)
    rfl
  exact zGoo_to hD
theorem vn12a0_0 {S : Nat → zSpc} (hS6 : zIm S 6 sn6) (hS8 : zIm S 8 sn8) (hS9 : zIm S 9 sn9) (hS11 : zIm S 11 sn11) {a : List Int} {g : rHp} : ∀ (ρ : Nat → Int) (γ : Nat → rHp), jn12 a g 0 (zAg (zNA a12_ 0) ρ) (γ 1) → zO 5 S a g q12a0_0 ρ γ → zGl (fun i vs g1 => jn12 a g i vs g1) (sn12 a g) q12a0_0 ρ γ := by
  intro ρ γ hJ h
  obtain ⟨ha, hg, hr, hf, hm, hc, hl⟩ := h
  have ha : a = [ρ 0, ρ 1, ρ 2, ρ 3, ρ 4] := ha
  subst ha
  subst hg
  have hJ : jn12 [ρ 0, ρ 1, ρ 2, ρ 3, ρ 4] (γ 0) 0 [ρ 0, ρ 1, ρ 2, ρ 3, ρ 4, ρ 5] (γ 1) := hJ
  have r8 : ((-128) : Int) ≤ ρ 8 ∧ ρ 8 ≤ 127 := zRnA hr 8
  have f0 : (0 : Int) ≤ -ρ 5 + ρ 0 + 12 := zAllA hf 0
  have f1 : (0 : Int) ≤ -ρ 5 + ρ 1 + (-1) := zAllA hf 1
  obtain ⟨w_0, w_1⟩ : (0 ≤ -ρ 5 + ρ 1 + (-1)) ∧ (ρ 5 + -ρ 0 ≤ 12) := ⟨by omega, by omega⟩
  have m0 : γ 0 15 0 35 = ρ 0 := zAllA hm 0
  have m1 : γ 0 15 0 34 = ρ 1 := zAllA hm 1
  have c7 : γ 7 = rUp (γ 6) 15 0 38 (ρ 5 + -ρ 0) := And.right (zChA hc 1)
  have c8 : γ 8 = rUp (γ 7) 15 0 35 (ρ 5) := And.right (zChA hc 0)
  have l0 : sn6 [ρ 5, ρ 1] (γ 1) 0 (ρ 6) (γ 2) := hS6 _ _ _ _ _ (zAllA hl 0)
  have l1 : sn9 [ρ 6] (γ 2) 0 0 (γ 3) := hS9 _ _ _ _ _ (zAllA hl 1)
  have l2 : sn6 [ρ 5, ρ 1] (γ 3) 0 (ρ 7) (γ 4) := hS6 _ _ _ _ _ (zAllA hl 2)
  have l3 : sn11 [ρ 7] (γ 4) 0 0 (γ 5) := hS11 _ _ _ _ _ (zAllA hl 3)
  have l4 : sn6 [ρ 5, ρ 1] (γ 5) 0 (ρ 8) (γ 6) := hS6 _ _ _ _ _ (zAllA hl 4)
  have l5 : ρ 8 ≠ 95 := zAllA hl 5
  have wl_0 : ρ 8 ≠ 95 := by omega
  show sn12 [ρ 0, ρ 1, ρ 2, ρ 3, ρ 4] (γ 0) 0 1 (γ 8)
  have hD : en12 (γ 0) (0, [ρ 5], γ 1) = .inr (0, 1, γ 8) := by
    unfold en12
    refine zIP (show (0 : Nat) = 0 by decide) (zLV (γ 1) rfl (zLV (ρ 5) rfl (zLE m0 (zLE m1 (zLE (show fn6 [ρ 5] (γ 1) = (0, ρ 6, γ 2) from l0.symm) (zLV (γ 2) rfl (zIP w_0 ?_)))))))
    refine zLV (ρ 6) rfl (zLE (show fn9 [ρ 6] (γ 2) = (0, 0, γ 3) from l1.symm) (zLV (γ 3) rfl (zIN zQ0_ (zLE (show fn6 [ρ 5] (γ 3) = (0, ρ 7, γ 4) from l2.symm) (zLV (γ 4) rfl (zLV (ρ 7) rfl (zLE (show fn11 [ρ 7] (γ 4) = (0, 0, γ 5) from l3.symm) ?_)))))))
    refine zLV (γ 5) rfl (zIN zQ0_ (zLE (show fn6 [ρ 5] (γ 5) = (0, ρ 8, γ 6) from l4.symm) (zLV (γ 6) rfl (zLV (ρ 8) rfl (zIP wl_0 (zLE c7.symm (zIP w_1 ?_)))))))
    refine zLE c8.symm ?_
    rfl
  exact zGoo_aend hJ hD
theorem vn12a0_1 {S : Nat → zSpc} (hS6 : zIm S 6 sn6) (hS8 : zIm S 8 sn8) (hS9 : zIm S 9 sn9) (hS11 : zIm S 11 sn11) {a : List Int} {g : rHp} : ∀ (ρ : Nat → Int) (γ : Nat → rHp), jn12 a g 0 (zAg (zNA a12_ 0) ρ) (γ 1) → zO 5 S a g q12a0_1 ρ γ → zGl (fun i vs g1 => jn12 a g i vs g1) (sn12 a g) q12a0_1 ρ γ := by
  intro ρ γ hJ h
  obtain ⟨ha, hg, hr, hf, hm, hc, hl⟩ := h
  have ha : a = [ρ 0, ρ 1, ρ 2, ρ 3, ρ 4] := ha
  subst ha
  subst hg
  have hJ : jn12 [ρ 0, ρ 1, ρ 2, ρ 3, ρ 4] (γ 0) 0 [ρ 0, ρ 1, ρ 2, ρ 3, ρ 4, ρ 5] (γ 1) := hJ
  have r8 : ((-128) : Int) ≤ ρ 8 ∧ ρ 8 ≤ 127 := zRnA hr 8
  have f2 : (0 : Int) ≤ ρ 5 + -ρ 0 + (-13) := zAllA hf 2
  have f3 : (0 : Int) ≤ -ρ 5 + ρ 1 + (-1) := zAllA hf 3
  obtain ⟨w_0, w_1⟩ : (0 ≤ -ρ 5 + ρ 1 + (-1)) ∧ (¬ (ρ 5 + -ρ 0 ≤ 12)) := ⟨by omega, by omega⟩
  have m0 : γ 0 15 0 35 = ρ 0 := zAllA hm 0
  have m1 : γ 0 15 0 34 = ρ 1 := zAllA hm 1
  have c7 : γ 7 = rUp (γ 6) 15 0 38 (ρ 5 + -ρ 0) := And.right (zChA hc 1)
  have l0 : sn6 [ρ 5, ρ 1] (γ 1) 0 (ρ 6) (γ 2) := hS6 _ _ _ _ _ (zAllA hl 0)
  have l1 : sn9 [ρ 6] (γ 2) 0 0 (γ 3) := hS9 _ _ _ _ _ (zAllA hl 1)
  have l2 : sn6 [ρ 5, ρ 1] (γ 3) 0 (ρ 7) (γ 4) := hS6 _ _ _ _ _ (zAllA hl 2)
  have l3 : sn11 [ρ 7] (γ 4) 0 0 (γ 5) := hS11 _ _ _ _ _ (zAllA hl 3)
  have l4 : sn6 [ρ 5, ρ 1] (γ 5) 0 (ρ 8) (γ 6) := hS6 _ _ _ _ _ (zAllA hl 4)
  have l5 : ρ 8 ≠ 95 := zAllA hl 5
  have l6 : sn8 [ρ 0, ρ 1, ρ 3] (γ 7) 0 0 (γ 8) := hS8 _ _ _ _ _ (zAllA hl 6)
  have wl_0 : ρ 8 ≠ 95 := by omega
  show sn12 [ρ 0, ρ 1, ρ 2, ρ 3, ρ 4] (γ 0) 0 0 (γ 8)
  have hD : en12 (γ 0) (0, [ρ 5], γ 1) = .inr (0, 0, γ 8) := by
    unfold en12
    refine zIP (show (0 : Nat) = 0 by decide) (zLV (γ 1) rfl (zLV (ρ 5) rfl (zLE m0 (zLE m1 (zLE (show fn6 [ρ 5] (γ 1) = (0, ρ 6, γ 2) from l0.symm) (zLV (γ 2) rfl (zIP w_0 ?_)))))))
    refine zLV (ρ 6) rfl (zLE (show fn9 [ρ 6] (γ 2) = (0, 0, γ 3) from l1.symm) (zLV (γ 3) rfl (zIN zQ0_ (zLE (show fn6 [ρ 5] (γ 3) = (0, ρ 7, γ 4) from l2.symm) (zLV (γ 4) rfl (zLV (ρ 7) rfl (zLE (show fn11 [ρ 7] (γ 4) = (0, 0, γ 5) from l3.symm) ?_)))))))
    refine zLV (γ 5) rfl (zIN zQ0_ (zLE (show fn6 [ρ 5] (γ 5) = (0, ρ 8, γ 6) from l4.symm) (zLV (γ 6) rfl (zLV (ρ 8) rfl (zIP wl_0 (zLE c7.symm (zIN w_1 ?_)))))))
    refine zLE (show fn8 [ρ 0] (γ 7) = (0, 0, γ 8) from l6.symm) (zLV (γ 8) rfl ?_)
    rfl
  exact zGoo_aend hJ hD
theorem vn12a0_2 {S : Nat → zSpc} (hS6 : zIm S 6 sn6) (hS8 : zIm S 8 sn8) (hS9 : zIm S 9 sn9) (hS11 : zIm S 11 sn11) {a : List Int} {g : rHp} : ∀ (ρ : Nat → Int) (γ : Nat → rHp), jn12 a g 0 (zAg (zNA a12_ 0) ρ) (γ 1) → zO 5 S a g q12a0_2 ρ γ → zGl (fun i vs g1 => jn12 a g i vs g1) (sn12 a g) q12a0_2 ρ γ := by
  intro ρ γ hJ h
  obtain ⟨ha, hg, hr, hf, hm, hc, hl⟩ := h
  have ha : a = [ρ 0, ρ 1, ρ 2, ρ 3, ρ 4] := ha
  subst ha
  subst hg
  have hJ : jn12 [ρ 0, ρ 1, ρ 2, ρ 3, ρ 4] (γ 0) 0 [ρ 0, ρ 1, ρ 2, ρ 3, ρ 4, ρ 5] (γ 1) := hJ
  have r8 : (95 : Int) ≤ ρ 8 ∧ ρ 8 ≤ 95 := zRnA hr 8
  have f0 : (0 : Int) ≤ -ρ 5 + ρ 1 + (-1) := zAllA hf 0
  obtain ⟨w_0, w_1⟩ : (0 ≤ -ρ 5 + ρ 1 + (-1)) ∧ (¬ (ρ 8 ≠ 95)) := ⟨by omega, by omega⟩
  have m0 : γ 0 15 0 35 = ρ 0 := zAllA hm 0
  have m1 : γ 0 15 0 34 = ρ 1 := zAllA hm 1
  have l0 : sn6 [ρ 5, ρ 1] (γ 1) 0 (ρ 6) (γ 2) := hS6 _ _ _ _ _ (zAllA hl 0)
  have l1 : sn9 [ρ 6] (γ 2) 0 0 (γ 3) := hS9 _ _ _ _ _ (zAllA hl 1)
  have l2 : sn6 [ρ 5, ρ 1] (γ 3) 0 (ρ 7) (γ 4) := hS6 _ _ _ _ _ (zAllA hl 2)
  have l3 : sn11 [ρ 7] (γ 4) 0 0 (γ 5) := hS11 _ _ _ _ _ (zAllA hl 3)
  have l4 : sn6 [ρ 5, ρ 1] (γ 5) 0 (ρ 8) (γ 6) := hS6 _ _ _ _ _ (zAllA hl 4)
  show jn12 [ρ 0, ρ 1, ρ 2, ρ 3, ρ 4] (γ 0) 0 [ρ 0, ρ 1, ρ 2, ρ 3, ρ 4, ρ 5 + 1] (γ 6)
  have hD : en12 (γ 0) (0, [ρ 5], γ 1) = .inl (0, [ρ 5 + 1], γ 6) := by
    unfold en12
    refine zIP (show (0 : Nat) = 0 by decide) (zLV (γ 1) rfl (zLV (ρ 5) rfl (zLE m0 (zLE m1 (zLE (show fn6 [ρ 5] (γ 1) = (0, ρ 6, γ 2) from l0.symm) (zLV (γ 2) rfl (zIP w_0 ?_)))))))
    refine zLV (ρ 6) rfl (zLE (show fn9 [ρ 6] (γ 2) = (0, 0, γ 3) from l1.symm) (zLV (γ 3) rfl (zIN zQ0_ (zLE (show fn6 [ρ 5] (γ 3) = (0, ρ 7, γ 4) from l2.symm) (zLV (γ 4) rfl (zLV (ρ 7) rfl (zLE (show fn11 [ρ 7] (γ 4) = (0, 0, γ 5) from l3.symm) ?_)))))))
    refine zLV (γ 5) rfl (zIN zQ0_ (zLE (show fn6 [ρ 5] (γ 5) = (0, ρ 8, γ 6) from l4.symm) (zLV (γ 6) rfl (zLV (ρ 8) rfl (zIN w_1 ?_)))))
    rfl
  exact zGoo_ato hJ hD
theorem vn12a0_3 {S : Nat → zSpc} (hS6 : zIm S 6 sn6) (hS8 : zIm S 8 sn8) (hS9 : zIm S 9 sn9) (hS11 : zIm S 11 sn11) {a : List Int} {g : rHp} : ∀ (ρ : Nat → Int) (γ : Nat → rHp), jn12 a g 0 (zAg (zNA a12_ 0) ρ) (γ 1) → zO 5 S a g q12a0_3 ρ γ → zGl (fun i vs g1 => jn12 a g i vs g1) (sn12 a g) q12a0_3 ρ γ := by
  intro ρ γ hJ h
  obtain ⟨ha, hg, hr, hf, hm, hc, hl⟩ := h
  have ha : a = [ρ 0, ρ 1, ρ 2, ρ 3, ρ 4] := ha
  subst ha
  subst hg
  have hJ : jn12 [ρ 0, ρ 1, ρ 2, ρ 3, ρ 4] (γ 0) 0 [ρ 0, ρ 1, ρ 2, ρ 3, ρ 4, ρ 5] (γ 1) := hJ
  have f0 : (0 : Int) ≤ -ρ 5 + ρ 1 + (-1) := zAllA hf 0
  have w_0 : 0 ≤ -ρ 5 + ρ 1 + (-1) := by omega
  have m0 : γ 0 15 0 35 = ρ 0 := zAllA hm 0
  have m1 : γ 0 15 0 34 = ρ 1 := zAllA hm 1
  have l0 : sn6 [ρ 5, ρ 1] (γ 1) 0 (ρ 6) (γ 2) := hS6 _ _ _ _ _ (zAllA hl 0)
  have l1 : sn9 [ρ 6] (γ 2) 0 0 (γ 3) := hS9 _ _ _ _ _ (zAllA hl 1)
  have l2 : sn6 [ρ 5, ρ 1] (γ 3) 0 (ρ 7) (γ 4) := hS6 _ _ _ _ _ (zAllA hl 2)
  have l3 : sn11 [ρ 7] (γ 4) 0 1 (γ 5) := hS11 _ _ _ _ _ (zAllA hl 3)
  show jn12 [ρ 0, ρ 1, ρ 2, ρ 3, ρ 4] (γ 0) 0 [ρ 0, ρ 1, ρ 2, ρ 3, ρ 4, ρ 5 + 1] (γ 5)
  have hD : en12 (γ 0) (0, [ρ 5], γ 1) = .inl (0, [ρ 5 + 1], γ 5) := by
    unfold en12
    refine zIP (show (0 : Nat) = 0 by decide) (zLV (γ 1) rfl (zLV (ρ 5) rfl (zLE m0 (zLE m1 (zLE (show fn6 [ρ 5] (γ 1) = (0, ρ 6, γ 2) from l0.symm) (zLV (γ 2) rfl (zIP w_0 ?_)))))))
    refine zLV (ρ 6) rfl (zLE (show fn9 [ρ 6] (γ 2) = (0, 0, γ 3) from l1.symm) (zLV (γ 3) rfl (zIN zQ0_ (zLE (show fn6 [ρ 5] (γ 3) = (0, ρ 7, γ 4) from l2.symm) (zLV (γ 4) rfl (zLV (ρ 7) rfl (zLE (show fn11 [ρ 7] (γ 4) = (0, 1, γ 5) from l3.symm) ?_)))))))
    refine zLV (γ 5) rfl (zIP zQ1_ ?_)
    rfl
  exact zGoo_ato hJ hD
theorem vn12a0_4 {S : Nat → zSpc} (hS6 : zIm S 6 sn6) (hS8 : zIm S 8 sn8) (hS9 : zIm S 9 sn9) (hS11 : zIm S 11 sn11) {a : List Int} {g : rHp} : ∀ (ρ : Nat → Int) (γ : Nat → rHp), jn12 a g 0 (zAg (zNA a12_ 0) ρ) (γ 1) → zO 5 S a g q12a0_4 ρ γ → zGl (fun i vs g1 => jn12 a g i vs g1) (sn12 a g) q12a0_4 ρ γ := by
  intro ρ γ hJ h
  obtain ⟨ha, hg, hr, hf, hm, hc, hl⟩ := h
  have ha : a = [ρ 0, ρ 1, ρ 2, ρ 3, ρ 4] := ha
  subst ha
  subst hg
  have hJ : jn12 [ρ 0, ρ 1, ρ 2, ρ 3, ρ 4] (γ 0) 0 [ρ 0, ρ 1, ρ 2, ρ 3, ρ 4, ρ 5] (γ 1) := hJ
  have f0 : (0 : Int) ≤ -ρ 5 + ρ 1 + (-1) := zAllA hf 0
  have w_0 : 0 ≤ -ρ 5 + ρ 1 + (-1) := by omega
  have m0 : γ 0 15 0 35 = ρ 0 := zAllA hm 0
  have m1 : γ 0 15 0 34 = ρ 1 := zAllA hm 1
  have l0 : sn6 [ρ 5, ρ 1] (γ 1) 0 (ρ 6) (γ 2) := hS6 _ _ _ _ _ (zAllA hl 0)
  have l1 : sn9 [ρ 6] (γ 2) 0 1 (γ 3) := hS9 _ _ _ _ _ (zAllA hl 1)
  show jn12 [ρ 0, ρ 1, ρ 2, ρ 3, ρ 4] (γ 0) 0 [ρ 0, ρ 1, ρ 2, ρ 3, ρ 4, ρ 5 + 1] (γ 3)
  have hD : en12 (γ 0) (0, [ρ 5], γ 1) = .inl (0, [ρ 5 + 1], γ 3) := by
    unfold en12
    refine zIP (show (0 : Nat) = 0 by decide) (zLV (γ 1) rfl (zLV (ρ 5) rfl (zLE m0 (zLE m1 (zLE (show fn6 [ρ 5] (γ 1) = (0, ρ 6, γ 2) from l0.symm) (zLV (γ 2) rfl (zIP w_0 ?_)))))))
    refine zLV (ρ 6) rfl (zLE (show fn9 [ρ 6] (γ 2) = (0, 1, γ 3) from l1.symm) (zLV (γ 3) rfl (zIP zQ1_ ?_)))
    rfl
  exact zGoo_ato hJ hD
theorem vn12a0_5 {S : Nat → zSpc} (hS6 : zIm S 6 sn6) (hS8 : zIm S 8 sn8) (hS9 : zIm S 9 sn9) (hS11 : zIm S 11 sn11) {a : List Int} {g : rHp} : ∀ (ρ : Nat → Int) (γ : Nat → rHp), jn12 a g 0 (zAg (zNA a12_ 0) ρ) (γ 1) → zO 5 S a g q12a0_5 ρ γ → zGl (fun i vs g1 => jn12 a g i vs g1) (sn12 a g) q12a0_5 ρ γ := by
  intro ρ γ hJ h
  obtain ⟨ha, hg, hr, hf, hm, hc, hl⟩ := h
  have ha : a = [ρ 0, ρ 1, ρ 2, ρ 3, ρ 4] := ha
  subst ha
  subst hg
  have hJ : jn12 [ρ 0, ρ 1, ρ 2, ρ 3, ρ 4] (γ 0) 0 [ρ 0, ρ 1, ρ 2, ρ 3, ρ 4, ρ 5] (γ 1) := hJ
  have f0 : (0 : Int) ≤ -ρ 5 + ρ 0 + 12 := zAllA hf 0
  have f1 : (0 : Int) ≤ ρ 5 + -ρ 1 := zAllA hf 1
  obtain ⟨w_0, w_1⟩ : (¬ (0 ≤ -ρ 5 + ρ 1 + (-1))) ∧ (ρ 5 + -ρ 0 ≤ 12) := ⟨by omega, by omega⟩
  have m0 : γ 0 15 0 35 = ρ 0 := zAllA hm 0
  have m1 : γ 0 15 0 34 = ρ 1 := zAllA hm 1
  have c7 : γ 7 = rUp (γ 6) 15 0 38 (ρ 5 + -ρ 0) := And.right (zChA hc 1)
  have c8 : γ 8 = rUp (γ 7) 15 0 35 (ρ 5) := And.right (zChA hc 0)
  have l0 : sn6 [ρ 5, ρ 1] (γ 1) 0 (-1) (γ 2) := hS6 _ _ _ _ _ (zAllA hl 0)
  have l1 : sn9 [(-1)] (γ 2) 0 0 (γ 3) := hS9 _ _ _ _ _ (zAllA hl 1)
  have l2 : sn6 [ρ 5, ρ 1] (γ 3) 0 (-1) (γ 4) := hS6 _ _ _ _ _ (zAllA hl 2)
  have l3 : sn11 [(-1)] (γ 4) 0 0 (γ 5) := hS11 _ _ _ _ _ (zAllA hl 3)
  have l4 : sn6 [ρ 5, ρ 1] (γ 5) 0 (-1) (γ 6) := hS6 _ _ _ _ _ (zAllA hl 4)
  show sn12 [ρ 0, ρ 1, ρ 2, ρ 3, ρ 4] (γ 0) 0 1 (γ 8)
  have hD : en12 (γ 0) (0, [ρ 5], γ 1) = .inr (0, 1, γ 8) := by
    unfold en12
    refine zIP (show (0 : Nat) = 0 by decide) (zLV (γ 1) rfl (zLV (ρ 5) rfl (zLE m0 (zLE m1 (zLE (show fn6 [ρ 5] (γ 1) = (0, (-1), γ 2) from l0.symm) (zLV (γ 2) rfl (zIN w_0 ?_)))))))
    refine zLE (show fn9 [(-1)] (γ 2) = (0, 0, γ 3) from l1.symm) (zLV (γ 3) rfl (zLE (show fn6 [ρ 5] (γ 3) = (0, (-1), γ 4) from l2.symm) (zLV (γ 4) rfl (zLE (show fn11 [(-1)] (γ 4) = (0, 0, γ 5) from l3.symm) (zLV (γ 5) rfl (zLE (show fn6 [ρ 5] (γ 5) = (0, (-1), γ 6) from l4.symm) (zLV (γ 6) rfl ?_)))))))
    refine zLE c7.symm (zIP w_1 (zLE c8.symm ?_))
    rfl
  exact zGoo_aend hJ hD
theorem vn12a0_6 {S : Nat → zSpc} (hS6 : zIm S 6 sn6) (hS8 : zIm S 8 sn8) (hS9 : zIm S 9 sn9) (hS11 : zIm S 11 sn11) {a : List Int} {g : rHp} : ∀ (ρ : Nat → Int) (γ : Nat → rHp), jn12 a g 0 (zAg (zNA a12_ 0) ρ) (γ 1) → zO 5 S a g q12a0_6 ρ γ → zGl (fun i vs g1 => jn12 a g i vs g1) (sn12 a g) q12a0_6 ρ γ := by
  intro ρ γ hJ h
  obtain ⟨ha, hg, hr, hf, hm, hc, hl⟩ := h
  have ha : a = [ρ 0, ρ 1, ρ 2, ρ 3, ρ 4] := ha
  subst ha
  subst hg
  have hJ : jn12 [ρ 0, ρ 1, ρ 2, ρ 3, ρ 4] (γ 0) 0 [ρ 0, ρ 1, ρ 2, ρ 3, ρ 4, ρ 5] (γ 1) := hJ
  have f2 : (0 : Int) ≤ ρ 5 + -ρ 0 + (-13) := zAllA hf 2
  have f3 : (0 : Int) ≤ ρ 5 + -ρ 1 := zAllA hf 3
  obtain ⟨w_0, w_1⟩ : (¬ (0 ≤ -ρ 5 + ρ 1 + (-1))) ∧ (¬ (ρ 5 + -ρ 0 ≤ 12)) := ⟨by omega, by omega⟩
  have m0 : γ 0 15 0 35 = ρ 0 := zAllA hm 0
  have m1 : γ 0 15 0 34 = ρ 1 := zAllA hm 1
  have c7 : γ 7 = rUp (γ 6) 15 0 38 (ρ 5 + -ρ 0) := And.right (zChA hc 1)
  have l0 : sn6 [ρ 5, ρ 1] (γ 1) 0 (-1) (γ 2) := hS6 _ _ _ _ _ (zAllA hl 0)
  have l1 : sn9 [(-1)] (γ 2) 0 0 (γ 3) := hS9 _ _ _ _ _ (zAllA hl 1)
  have l2 : sn6 [ρ 5, ρ 1] (γ 3) 0 (-1) (γ 4) := hS6 _ _ _ _ _ (zAllA hl 2)
  have l3 : sn11 [(-1)] (γ 4) 0 0 (γ 5) := hS11 _ _ _ _ _ (zAllA hl 3)
  have l4 : sn6 [ρ 5, ρ 1] (γ 5) 0 (-1) (γ 6) := hS6 _ _ _ _ _ (zAllA hl 4)
  have l5 : sn8 [ρ 0, ρ 1, ρ 3] (γ 7) 0 0 (γ 8) := hS8 _ _ _ _ _ (zAllA hl 5)
  show sn12 [ρ 0, ρ 1, ρ 2, ρ 3, ρ 4] (γ 0) 0 0 (γ 8)
  have hD : en12 (γ 0) (0, [ρ 5], γ 1) = .inr (0, 0, γ 8) := by
    unfold en12
    refine zIP (show (0 : Nat) = 0 by decide) (zLV (γ 1) rfl (zLV (ρ 5) rfl (zLE m0 (zLE m1 (zLE (show fn6 [ρ 5] (γ 1) = (0, (-1), γ 2) from l0.symm) (zLV (γ 2) rfl (zIN w_0 ?_)))))))
    refine zLE (show fn9 [(-1)] (γ 2) = (0, 0, γ 3) from l1.symm) (zLV (γ 3) rfl (zLE (show fn6 [ρ 5] (γ 3) = (0, (-1), γ 4) from l2.symm) (zLV (γ 4) rfl (zLE (show fn11 [(-1)] (γ 4) = (0, 0, γ 5) from l3.symm) (zLV (γ 5) rfl (zLE (show fn6 [ρ 5] (γ 5) = (0, (-1), γ 6) from l4.symm) (zLV (γ 6) rfl ?_)))))))
    refine zLE c7.symm (zIN w_1 (zLE (show fn8 [ρ 0] (γ 7) = (0, 0, γ 8) from l5.symm) (zLV (γ 8) rfl ?_)))
    rfl
  exact zGoo_aend hJ hD
theorem yn12 {S : Nat → zSpc} (hS6 : zIm S 6 sn6) (hS8 : zIm S 8 sn8) (hS9 : zIm S 9 sn9) (hS11 : zIm S 11 sn11) : ∀ x g o v gz, zSem uW uT w12_.2.2.2.1 w12_.2.2.1.1.length S q12 (fun i => q12a.getD i []) (zNA a12_) x g o v gz → sn12 x g o v gz := by
  intro a g o v gz h
  exact zSem_all (l0 := q12) (las := q12a) (S := S) (J := (fun i vs g1 => jn12 a g i vs g1)) (P := sn12 a g) (fun _ => (show zAll _ [q12_0] from (zAll_c (vn12_0 hS6 hS8 hS9 hS11) zAll_n))) (fun _ => (show zAllI _ 0 [q12a0] from ⟨(show zAll _ [q12a0_0, q12a0_1, q12a0_2, q12a0_3, q12a0_4, q12a0_5, q12a0_6] from (zAll_c (vn12a0_0 hS6 hS8 hS9 hS11) (zAll_c (vn12a0_1 hS6 hS8 hS9 hS11) (zAll_c (vn12a0_2 hS6 hS8 hS9 hS11) (zAll_c (vn12a0_3 hS6 hS8 hS9 hS11) (zAll_c (vn12a0_4 hS6 hS8 hS9 hS11) (zAll_c (vn12a0_5 hS6 hS8 hS9 hS11) (zAll_c (vn12a0_6 hS6 hS8 hS9 hS11) zAll_n)))))))), trivial⟩)) h
theorem vn13_0 {S : Nat → zSpc}  {a : List Int} {g : rHp} : ∀ (ρ : Nat → Int) (γ : Nat → rHp), zO 7 S a g q13_0 ρ γ → zGl (fun _ _ _ => True) (sn13 a g) q13_0 ρ γ := by
  intro ρ γ h
  obtain ⟨ha, hg, hr, hf, hm, hc, hl⟩ := h
  have ha : a = [ρ 0, ρ 1, ρ 2, ρ 3, ρ 4, ρ 5, ρ 6] := ha
  subst ha
  subst hg
  have r1 : ((-2147483648) : Int) ≤ ρ 1 ∧ ρ 1 ≤ 2147483647 := zRnA hr 1
  have r2 : ((-2147483648) : Int) ≤ ρ 2 ∧ ρ 2 ≤ 2147483647 := zRnA hr 2
  have r3 : ((-2147483648) : Int) ≤ ρ 3 ∧ ρ 3 ≤ 2147483647 := zRnA hr 3
  have r4 : ((-2147483648) : Int) ≤ ρ 4 ∧ ρ 4 ≤ 2147483647 := zRnA hr 4
  have r5 : (0 : Int) ≤ ρ 5 ∧ ρ 5 ≤ 2000 := zRnA hr 5
  have r6 : (0 : Int) ≤ ρ 6 ∧ ρ 6 ≤ 2000 := zRnA hr 6
  have f0 : (0 : Int) ≤ -ρ 6 + -ρ 5 + 2000 := zAllA hf 0
  have m0 : γ 0 15 0 37 = ρ 5 := zAllA hm 0
  have m1 : γ 0 15 0 38 = ρ 6 := zAllA hm 1
  have l0 : ρ 1 ≠ 0 := zAllA hl 0
  have l1 : ρ 2 ≠ 0 := zAllA hl 1
  have l2 : ρ 3 ≠ 0 := zAllA hl 2
  have l3 : ρ 4 ≠ 0 := zAllA hl 3
  have l4 : ρ 6 ≠ 5 := zAllA hl 4
  obtain ⟨wl_0, wl_1, wl_2, wl_3, wl_4⟩ : (ρ 1 ≠ 0) ∧ (ρ 2 ≠ 0) ∧ (ρ 3 ≠ 0) ∧ (ρ 4 ≠ 0) ∧ (ρ 6 ≠ 5) := ⟨by omega, by omega, by omega, by omega, by omega⟩
  show sn13 [ρ 0, ρ 1, ρ 2, ρ 3, ρ 4, ρ 5, ρ 6] (γ 0) 0 0 (γ 0)
  refine Eq.symm ?_
  show fn13 [ρ 0, ρ 1, ρ 2, ρ 3, ρ 4] (γ 0) = _
  unfold fn13
  refine zLV (ρ 0) rfl (zLV (ρ 1) rfl (zLV (ρ 2) rfl (zLV (ρ 3) rfl (zLV (ρ 4) rfl (zLE m0 (zLE m1 (zIP wl_0 ?_)))))))
  refine zIP wl_1 (zIP wl_2 (zIP wl_3 (zIP wl_4 ?_)))
  rfl
theorem vn13_1 {S : Nat → zSpc}  {a : List Int} {g : rHp} : ∀ (ρ : Nat → Int) (γ : Nat → rHp), zO 7 S a g q13_1 ρ γ → zGl (fun _ _ _ => True) (sn13 a g) q13_1 ρ γ := by
  intro ρ γ h
  obtain ⟨ha, hg, hr, hf, hm, hc, hl⟩ := h
  have ha : a = [ρ 0, ρ 1, ρ 2, ρ 3, ρ 4, ρ 5, ρ 6] := ha
  subst ha
  subst hg
  have r0 : ((-2147483648) : Int) ≤ ρ 0 ∧ ρ 0 ≤ 2147483647 := zRnA hr 0
  have r1 : ((-2147483648) : Int) ≤ ρ 1 ∧ ρ 1 ≤ 2147483647 := zRnA hr 1
  have r2 : ((-2147483648) : Int) ≤ ρ 2 ∧ ρ 2 ≤ 2147483647 := zRnA hr 2
  have r3 : ((-2147483648) : Int) ≤ ρ 3 ∧ ρ 3 ≤ 2147483647 := zRnA hr 3
  have r4 : ((-2147483648) : Int) ≤ ρ 4 ∧ ρ 4 ≤ 2147483647 := zRnA hr 4
  have r6 : (5 : Int) ≤ ρ 6 ∧ ρ 6 ≤ 5 := zRnA hr 6
  have r7 : ((-128) : Int) ≤ ρ 7 ∧ ρ 7 ≤ 127 := zRnA hr 7
  have w_0 : ¬ (ρ 6 ≠ 5) := by omega
  have m0 : γ 0 15 0 37 = ρ 5 := zAllA hm 0
  have m1 : γ 0 15 0 38 = ρ 6 := zAllA hm 1
  have m2 : γ 0 59 0 (ρ 5) = ρ 7 := zAllA hm 2
  have l0 : ρ 1 ≠ 0 := zAllA hl 0
  have l1 : ρ 2 ≠ 0 := zAllA hl 1
  have l2 : ρ 3 ≠ 0 := zAllA hl 2
  have l3 : ρ 4 ≠ 0 := zAllA hl 3
  have l4 : ρ 7 ≠ ρ 0 := zAllA hl 4
  obtain ⟨wl_0, wl_1, wl_2, wl_3, wl_4⟩ : (ρ 1 ≠ 0) ∧ (ρ 2 ≠ 0) ∧ (ρ 3 ≠ 0) ∧ (ρ 4 ≠ 0) ∧ (ρ 7 ≠ ρ 0) := ⟨by omega, by omega, by omega, by omega, by omega⟩
  show sn13 [ρ 0, ρ 1, ρ 2, ρ 3, ρ 4, ρ 5, ρ 6] (γ 0) 0 0 (γ 0)
  refine Eq.symm ?_
  show fn13 [ρ 0, ρ 1, ρ 2, ρ 3, ρ 4] (γ 0) = _
  unfold fn13
  refine zLV (ρ 0) rfl (zLV (ρ 1) rfl (zLV (ρ 2) rfl (zLV (ρ 3) rfl (zLV (ρ 4) rfl (zLE m0 (zLE m1 (zIP wl_0 ?_)))))))
  refine zIP wl_1 (zIP wl_2 (zIP wl_3 (zIN w_0 (zLE m2 (zIP wl_4 ?_)))))
  rfl
theorem vn13_2 {S : Nat → zSpc}  {a : List Int} {g : rHp} : ∀ (ρ : Nat → Int) (γ : Nat → rHp), zO 7 S a g q13_2 ρ γ → zGl (fun _ _ _ => True) (sn13 a g) q13_2 ρ γ := by
  intro ρ γ h
  obtain ⟨ha, hg, hr, hf, hm, hc, hl⟩ := h
  have ha : a = [ρ 0, ρ 1, ρ 2, ρ 3, ρ 4, ρ 5, ρ 6] := ha
  subst ha
  subst hg
  have r1 : ((-2147483648) : Int) ≤ ρ 1 ∧ ρ 1 ≤ 2147483647 := zRnA hr 1
  have r2 : ((-2147483648) : Int) ≤ ρ 2 ∧ ρ 2 ≤ 2147483647 := zRnA hr 2
  have r3 : ((-2147483648) : Int) ≤ ρ 3 ∧ ρ 3 ≤ 2147483647 := zRnA hr 3
  have r4 : ((-2147483648) : Int) ≤ ρ 4 ∧ ρ 4 ≤ 2147483647 := zRnA hr 4
  have r6 : (5 : Int) ≤ ρ 6 ∧ ρ 6 ≤ 5 := zRnA hr 6
  have r8 : ((-128) : Int) ≤ ρ 8 ∧ ρ 8 ≤ 127 := zRnA hr 8
  have f0 : (0 : Int) ≤ -ρ 7 + ρ 0 := zAllA hf 0
  have f1 : (0 : Int) ≤ ρ 7 + -ρ 0 := zAllA hf 1
  obtain ⟨w_0, w_1⟩ : (¬ (ρ 6 ≠ 5)) ∧ (¬ (ρ 7 ≠ ρ 0)) := ⟨by omega, by omega⟩
  have m0 : γ 0 15 0 37 = ρ 5 := zAllA hm 0
  have m1 : γ 0 15 0 38 = ρ 6 := zAllA hm 1
  have m2 : γ 0 59 0 (ρ 5) = ρ 7 := zAllA hm 2
  have m3 : γ 0 59 0 (ρ 5 + 1) = ρ 8 := zAllA hm 3
  have l0 : ρ 1 ≠ 0 := zAllA hl 0
  have l1 : ρ 2 ≠ 0 := zAllA hl 1
  have l2 : ρ 3 ≠ 0 := zAllA hl 2
  have l3 : ρ 4 ≠ 0 := zAllA hl 3
  have l4 : ρ 8 ≠ ρ 1 := zAllA hl 4
  obtain ⟨wl_0, wl_1, wl_2, wl_3, wl_4⟩ : (ρ 1 ≠ 0) ∧ (ρ 2 ≠ 0) ∧ (ρ 3 ≠ 0) ∧ (ρ 4 ≠ 0) ∧ (ρ 8 ≠ ρ 1) := ⟨by omega, by omega, by omega, by omega, by omega⟩
  show sn13 [ρ 0, ρ 1, ρ 2, ρ 3, ρ 4, ρ 5, ρ 6] (γ 0) 0 0 (γ 0)
  refine Eq.symm ?_
  show fn13 [ρ 0, ρ 1, ρ 2, ρ 3, ρ 4] (γ 0) = _
  unfold fn13
  refine zLV (ρ 0) rfl (zLV (ρ 1) rfl (zLV (ρ 2) rfl (zLV (ρ 3) rfl (zLV (ρ 4) rfl (zLE m0 (zLE m1 (zIP wl_0 ?_)))))))
  refine zIP wl_1 (zIP wl_2 (zIP wl_3 (zIN w_0 (zLE m2 (zIN w_1 (zLE m3 (zIP wl_4 ?_)))))))
  rfl
theorem vn13_3 {S : Nat → zSpc}  {a : List Int} {g : rHp} : ∀ (ρ : Nat → Int) (γ : Nat → rHp), zO 7 S a g q13_3 ρ γ → zGl (fun _ _ _ => True) (sn13 a g) q13_3 ρ γ := by
  intro ρ γ h
  obtain ⟨ha, hg, hr, hf, hm, hc, hl⟩ := h
  have ha : a = [ρ 0, ρ 1, ρ 2, ρ 3, ρ 4, ρ 5, ρ 6] := ha
  subst ha
  subst hg
  have r1 : ((-2147483648) : Int) ≤ ρ 1 ∧ ρ 1 ≤ 2147483647 := zRnA hr 1
  have r2 : ((-2147483648) : Int) ≤ ρ 2 ∧ ρ 2 ≤ 2147483647 := zRnA hr 2
  have r3 : ((-2147483648) : Int) ≤ ρ 3 ∧ ρ 3 ≤ 2147483647 := zRnA hr 3
  have r4 : ((-2147483648) : Int) ≤ ρ 4 ∧ ρ 4 ≤ 2147483647 := zRnA hr 4
  have r6 : (5 : Int) ≤ ρ 6 ∧ ρ 6 ≤ 5 := zRnA hr 6
  have r8 : ((-128) : Int) ≤ ρ 8 ∧ ρ 8 ≤ 127 := zRnA hr 8
  have r9 : ((-128) : Int) ≤ ρ 9 ∧ ρ 9 ≤ 127 := zRnA hr 9
  have f0 : (0 : Int) ≤ -ρ 8 + ρ 1 := zAllA hf 0
  have f1 : (0 : Int) ≤ ρ 8 + -ρ 1 := zAllA hf 1
  have f2 : (0 : Int) ≤ -ρ 7 + ρ 0 := zAllA hf 2
  have f3 : (0 : Int) ≤ ρ 7 + -ρ 0 := zAllA hf 3
  obtain ⟨w_0, w_1, w_2⟩ : (¬ (ρ 6 ≠ 5)) ∧ (¬ (ρ 7 ≠ ρ 0)) ∧ (¬ (ρ 8 ≠ ρ 1)) := ⟨by omega, by omega, by omega⟩
  have m0 : γ 0 15 0 37 = ρ 5 := zAllA hm 0
  have m1 : γ 0 15 0 38 = ρ 6 := zAllA hm 1
  have m2 : γ 0 59 0 (ρ 5) = ρ 7 := zAllA hm 2
  have m3 : γ 0 59 0 (ρ 5 + 1) = ρ 8 := zAllA hm 3
  have m4 : γ 0 59 0 (ρ 5 + 2) = ρ 9 := zAllA hm 4
  have l0 : ρ 1 ≠ 0 := zAllA hl 0
  have l1 : ρ 2 ≠ 0 := zAllA hl 1
  have l2 : ρ 3 ≠ 0 := zAllA hl 2
  have l3 : ρ 4 ≠ 0 := zAllA hl 3
  have l4 : ρ 9 ≠ ρ 2 := zAllA hl 4
  obtain ⟨wl_0, wl_1, wl_2, wl_3, wl_4⟩ : (ρ 1 ≠ 0) ∧ (ρ 2 ≠ 0) ∧ (ρ 3 ≠ 0) ∧ (ρ 4 ≠ 0) ∧ (ρ 9 ≠ ρ 2) := ⟨by omega, by omega, by omega, by omega, by omega⟩
  show sn13 [ρ 0, ρ 1, ρ 2, ρ 3, ρ 4, ρ 5, ρ 6] (γ 0) 0 0 (γ 0)
  refine Eq.symm ?_
  show fn13 [ρ 0, ρ 1, ρ 2, ρ 3, ρ 4] (γ 0) = _
  unfold fn13
  refine zLV (ρ 0) rfl (zLV (ρ 1) rfl (zLV (ρ 2) rfl (zLV (ρ 3) rfl (zLV (ρ 4) rfl (zLE m0 (zLE m1 (zIP wl_0 ?_)))))))
  refine zIP wl_1 (zIP wl_2 (zIP wl_3 (zIN w_0 (zLE m2 (zIN w_1 (zLE m3 (zIN w_2 ?_)))))))
  refine zLE m4 (zIP wl_4 ?_)
  rfl
theorem vn13_4 {S : Nat → zSpc}  {a : List Int} {g : rHp} : ∀ (ρ : Nat → Int) (γ : Nat → rHp), zO 7 S a g q13_4 ρ γ → zGl (fun _ _ _ => True) (sn13 a g) q13_4 ρ γ := by
  intro ρ γ h
  obtain ⟨ha, hg, hr, hf, hm, hc, hl⟩ := h
  have ha : a = [ρ 0, ρ 1, ρ 2, ρ 3, ρ 4, ρ 5, ρ 6] := ha
  subst ha
  subst hg
  have r1 : ((-2147483648) : Int) ≤ ρ 1 ∧ ρ 1 ≤ 2147483647 := zRnA hr 1
  have r2 : ((-2147483648) : Int) ≤ ρ 2 ∧ ρ 2 ≤ 2147483647 := zRnA hr 2
  have r3 : ((-2147483648) : Int) ≤ ρ 3 ∧ ρ 3 ≤ 2147483647 := zRnA hr 3
  have r4 : ((-2147483648) : Int) ≤ ρ 4 ∧ ρ 4 ≤ 2147483647 := zRnA hr 4
  have r6 : (5 : Int) ≤ ρ 6 ∧ ρ 6 ≤ 5 := zRnA hr 6
  have r8 : ((-128) : Int) ≤ ρ 8 ∧ ρ 8 ≤ 127 := zRnA hr 8
  have r9 : ((-128) : Int) ≤ ρ 9 ∧ ρ 9 ≤ 127 := zRnA hr 9
  have r10 : ((-128) : Int) ≤ ρ 10 ∧ ρ 10 ≤ 127 := zRnA hr 10
  have f0 : (0 : Int) ≤ -ρ 9 + ρ 2 := zAllA hf 0
  have f1 : (0 : Int) ≤ ρ 9 + -ρ 2 := zAllA hf 1
  have f2 : (0 : Int) ≤ -ρ 8 + ρ 1 := zAllA hf 2
  have f3 : (0 : Int) ≤ ρ 8 + -ρ 1 := zAllA hf 3
  have f4 : (0 : Int) ≤ -ρ 7 + ρ 0 := zAllA hf 4
  have f5 : (0 : Int) ≤ ρ 7 + -ρ 0 := zAllA hf 5
  obtain ⟨w_0, w_1, w_2, w_3⟩ : (¬ (ρ 6 ≠ 5)) ∧ (¬ (ρ 7 ≠ ρ 0)) ∧ (¬ (ρ 8 ≠ ρ 1)) ∧ (¬ (ρ 9 ≠ ρ 2)) := ⟨by clear r1 r2 r3 r4 r8 r9 r10 f0 f1 f2 f3 f4 f5; omega, by clear r1 r2 r3 r4 r6 r8 r9 r10 f0 f1 f2 f3; omega, by clear r1 r2 r3 r4 r6 r8 r9 r10 f0 f1 f4 f5; omega, by clear r1 r2 r3 r4 r6 r8 r9 r10 f2 f3 f4 f5; omega⟩
  have m0 : γ 0 15 0 37 = ρ 5 := zAllA hm 0
  have m1 : γ 0 15 0 38 = ρ 6 := zAllA hm 1
  have m2 : γ 0 59 0 (ρ 5) = ρ 7 := zAllA hm 2
  have m3 : γ 0 59 0 (ρ 5 + 1) = ρ 8 := zAllA hm 3
  have m4 : γ 0 59 0 (ρ 5 + 2) = ρ 9 := zAllA hm 4
  have m5 : γ 0 59 0 (ρ 5 + 3) = ρ 10 := zAllA hm 5
  have l0 : ρ 1 ≠ 0 := zAllA hl 0
  have l1 : ρ 2 ≠ 0 := zAllA hl 1
  have l2 : ρ 3 ≠ 0 := zAllA hl 2
  have l3 : ρ 4 ≠ 0 := zAllA hl 3
  have l4 : ρ 10 ≠ ρ 3 := zAllA hl 4
  obtain ⟨wl_0, wl_1, wl_2, wl_3, wl_4⟩ : (ρ 1 ≠ 0) ∧ (ρ 2 ≠ 0) ∧ (ρ 3 ≠ 0) ∧ (ρ 4 ≠ 0) ∧ (ρ 10 ≠ ρ 3) := ⟨by omega, by omega, by omega, by omega, by omega⟩
  show sn13 [ρ 0, ρ 1, ρ 2, ρ 3, ρ 4, ρ 5, ρ 6] (γ 0) 0 0 (γ 0)
  refine Eq.symm ?_
  show fn13 [ρ 0, ρ 1, ρ 2, ρ 3, ρ 4] (γ 0) = _
  unfold fn13
  refine zLV (ρ 0) rfl (zLV (ρ 1) rfl (zLV (ρ 2) rfl (zLV (ρ 3) rfl (zLV (ρ 4) rfl (zLE m0 (zLE m1 (zIP wl_0 ?_)))))))
  refine zIP wl_1 (zIP wl_2 (zIP wl_3 (zIN w_0 (zLE m2 (zIN w_1 (zLE m3 (zIN w_2 ?_)))))))
  refine zLE m4 (zIN w_3 (zLE m5 (zIP wl_4 ?_)))
  rfl
theorem vn13_5 {S : Nat → zSpc}  {a : List Int} {g : rHp} : ∀ (ρ : Nat → Int) (γ : Nat → rHp), zO 7 S a g q13_5 ρ γ → zGl (fun _ _ _ => True) (sn13 a g) q13_5 ρ γ := by
  intro ρ γ h
  obtain ⟨ha, hg, hr, hf, hm, hc, hl⟩ := h
  have ha : a = [ρ 0, ρ 1, ρ 2, ρ 3, ρ 4, ρ 5, ρ 6] := ha
  subst ha
  subst hg
  have r1 : ((-2147483648) : Int) ≤ ρ 1 ∧ ρ 1 ≤ 2147483647 := zRnA hr 1
  have r2 : ((-2147483648) : Int) ≤ ρ 2 ∧ ρ 2 ≤ 2147483647 := zRnA hr 2
  have r3 : ((-2147483648) : Int) ≤ ρ 3 ∧ ρ 3 ≤ 2147483647 := zRnA hr 3
  have r4 : ((-2147483648) : Int) ≤ ρ 4 ∧ ρ 4 ≤ 2147483647 := zRnA hr 4
  have r6 : (5 : Int) ≤ ρ 6 ∧ ρ 6 ≤ 5 := zRnA hr 6
  have r8 : ((-128) : Int) ≤ ρ 8 ∧ ρ 8 ≤ 127 := zRnA hr 8
  have r9 : ((-128) : Int) ≤ ρ 9 ∧ ρ 9 ≤ 127 := zRnA hr 9
  have r10 : ((-128) : Int) ≤ ρ 10 ∧ ρ 10 ≤ 127 := zRnA hr 10
  have r11 : ((-128) : Int) ≤ ρ 11 ∧ ρ 11 ≤ 127 := zRnA hr 11
  have f0 : (0 : Int) ≤ -ρ 10 + ρ 3 := zAllA hf 0
  have f1 : (0 : Int) ≤ ρ 10 + -ρ 3 := zAllA hf 1
  have f2 : (0 : Int) ≤ -ρ 9 + ρ 2 := zAllA hf 2
  have f3 : (0 : Int) ≤ ρ 9 + -ρ 2 := zAllA hf 3
  have f4 : (0 : Int) ≤ -ρ 8 + ρ 1 := zAllA hf 4
  have f5 : (0 : Int) ≤ ρ 8 + -ρ 1 := zAllA hf 5
  have f6 : (0 : Int) ≤ -ρ 7 + ρ 0 := zAllA hf 6
  have f7 : (0 : Int) ≤ ρ 7 + -ρ 0 := zAllA hf 7
  obtain ⟨w_0, w_1, w_2, w_3, w_4⟩ : (¬ (ρ 6 ≠ 5)) ∧ (¬ (ρ 7 ≠ ρ 0)) ∧ (¬ (ρ 8 ≠ ρ 1)) ∧ (¬ (ρ 9 ≠ ρ 2)) ∧ (¬ (ρ 10 ≠ ρ 3)) := ⟨by clear r1 r2 r3 r4 r8 r9 r10 r11 f0 f1 f2 f3 f4 f5 f6 f7; omega, by clear r1 r2 r3 r4 r6 r8 r9 r10 r11 f0 f1 f2 f3 f4 f5; omega, by clear r1 r2 r3 r4 r6 r8 r9 r10 r11 f0 f1 f2 f3 f6 f7; omega, by clear r1 r2 r3 r4 r6 r8 r9 r10 r11 f0 f1 f4 f5 f6 f7; omega, by clear r1 r2 r3 r4 r6 r8 r9 r10 r11 f2 f3 f4 f5 f6 f7; omega⟩
  have m0 : γ 0 15 0 37 = ρ 5 := zAllA hm 0
  have m1 : γ 0 15 0 38 = ρ 6 := zAllA hm 1
  have m2 : γ 0 59 0 (ρ 5) = ρ 7 := zAllA hm 2
  have m3 : γ 0 59 0 (ρ 5 + 1) = ρ 8 := zAllA hm 3
  have m4 : γ 0 59 0 (ρ 5 + 2) = ρ 9 := zAllA hm 4
  have m5 : γ 0 59 0 (ρ 5 + 3) = ρ 10 := zAllA hm 5
  have m6 : γ 0 59 0 (ρ 5 + 4) = ρ 11 := zAllA hm 6
  have l0 : ρ 1 ≠ 0 := zAllA hl 0
  have l1 : ρ 2 ≠ 0 := zAllA hl 1
  have l2 : ρ 3 ≠ 0 := zAllA hl 2
  have l3 : ρ 4 ≠ 0 := zAllA hl 3
  have l4 : ρ 11 ≠ ρ 4 := zAllA hl 4
  obtain ⟨wl_0, wl_1, wl_2, wl_3, wl_4⟩ : (ρ 1 ≠ 0) ∧ (ρ 2 ≠ 0) ∧ (ρ 3 ≠ 0) ∧ (ρ 4 ≠ 0) ∧ (ρ 11 ≠ ρ 4) := ⟨by omega, by omega, by omega, by omega, by omega⟩
  show sn13 [ρ 0, ρ 1, ρ 2, ρ 3, ρ 4, ρ 5, ρ 6] (γ 0) 0 0 (γ 0)
  refine Eq.symm ?_
  show fn13 [ρ 0, ρ 1, ρ 2, ρ 3, ρ 4] (γ 0) = _
  unfold fn13
  refine zLV (ρ 0) rfl (zLV (ρ 1) rfl (zLV (ρ 2) rfl (zLV (ρ 3) rfl (zLV (ρ 4) rfl (zLE m0 (zLE m1 (zIP wl_0 ?_)))))))
  refine zIP wl_1 (zIP wl_2 (zIP wl_3 (zIN w_0 (zLE m2 (zIN w_1 (zLE m3 (zIN w_2 ?_)))))))
  refine zLE m4 (zIN w_3 (zLE m5 (zIN w_4 (zLE m6 (zIP wl_4 ?_)))))
  rfl
theorem vn13_6 {S : Nat → zSpc}  {a : List Int} {g : rHp} : ∀ (ρ : Nat → Int) (γ : Nat → rHp), zO 7 S a g q13_6 ρ γ → zGl (fun _ _ _ => True) (sn13 a g) q13_6 ρ γ := by
  intro ρ γ h
  obtain ⟨ha, hg, hr, hf, hm, hc, hl⟩ := h
  have ha : a = [ρ 0, ρ 1, ρ 2, ρ 3, ρ 4, ρ 5, ρ 6] := ha
  subst ha
  subst hg
  have r1 : ((-2147483648) : Int) ≤ ρ 1 ∧ ρ 1 ≤ 2147483647 := zRnA hr 1
  have r2 : ((-2147483648) : Int) ≤ ρ 2 ∧ ρ 2 ≤ 2147483647 := zRnA hr 2
  have r3 : ((-2147483648) : Int) ≤ ρ 3 ∧ ρ 3 ≤ 2147483647 := zRnA hr 3
  have r4 : ((-2147483648) : Int) ≤ ρ 4 ∧ ρ 4 ≤ 2147483647 := zRnA hr 4
  have r6 : (5 : Int) ≤ ρ 6 ∧ ρ 6 ≤ 5 := zRnA hr 6
  have r8 : ((-128) : Int) ≤ ρ 8 ∧ ρ 8 ≤ 127 := zRnA hr 8
  have r9 : ((-128) : Int) ≤ ρ 9 ∧ ρ 9 ≤ 127 := zRnA hr 9
  have r10 : ((-128) : Int) ≤ ρ 10 ∧ ρ 10 ≤ 127 := zRnA hr 10
  have r11 : ((-128) : Int) ≤ ρ 11 ∧ ρ 11 ≤ 127 := zRnA hr 11
  have f0 : (0 : Int) ≤ -ρ 11 + ρ 4 := zAllA hf 0
  have f1 : (0 : Int) ≤ ρ 11 + -ρ 4 := zAllA hf 1
  have f2 : (0 : Int) ≤ -ρ 10 + ρ 3 := zAllA hf 2
  have f3 : (0 : Int) ≤ ρ 10 + -ρ 3 := zAllA hf 3
  have f4 : (0 : Int) ≤ -ρ 9 + ρ 2 := zAllA hf 4
  have f5 : (0 : Int) ≤ ρ 9 + -ρ 2 := zAllA hf 5
  have f6 : (0 : Int) ≤ -ρ 8 + ρ 1 := zAllA hf 6
  have f7 : (0 : Int) ≤ ρ 8 + -ρ 1 := zAllA hf 7
  have f8 : (0 : Int) ≤ -ρ 7 + ρ 0 := zAllA hf 8
  have f9 : (0 : Int) ≤ ρ 7 + -ρ 0 := zAllA hf 9
  obtain ⟨w_0, w_1, w_2, w_3, w_4, w_5⟩ : (¬ (ρ 6 ≠ 5)) ∧ (¬ (ρ 7 ≠ ρ 0)) ∧ (¬ (ρ 8 ≠ ρ 1)) ∧ (¬ (ρ 9 ≠ ρ 2)) ∧ (¬ (ρ 10 ≠ ρ 3)) ∧ (¬ (ρ 11 ≠ ρ 4)) := ⟨by clear r1 r2 r3 r4 r8 r9 r10 r11 f0 f1 f2 f3 f4 f5 f6 f7 f8 f9; omega, by clear r1 r2 r3 r4 r6 r8 r9 r10 r11 f0 f1 f2 f3 f4 f5 f6 f7; omega, by clear r1 r2 r3 r4 r6 r8 r9 r10 r11 f0 f1 f2 f3 f4 f5 f8 f9; omega, by clear r1 r2 r3 r4 r6 r8 r9 r10 r11 f0 f1 f2 f3 f6 f7 f8 f9; omega, by clear r1 r2 r3 r4 r6 r8 r9 r10 r11 f0 f1 f4 f5 f6 f7 f8 f9; omega, by clear r1 r2 r3 r4 r6 r8 r9 r10 r11 f2 f3 f4 f5 f6 f7 f8 f9; omega⟩
  have m0 : γ 0 15 0 37 = ρ 5 := zAllA hm 0
  have m1 : γ 0 15 0 38 = ρ 6 := zAllA hm 1
  have m2 : γ 0 59 0 (ρ 5) = ρ 7 := zAllA hm 2
  have m3 : γ 0 59 0 (ρ 5 + 1) = ρ 8 := zAllA hm 3
  have m4 : γ 0 59 0 (ρ 5 + 2) = ρ 9 := zAllA hm 4
  have m5 : γ 0 59 0 (ρ 5 + 3) = ρ 10 := zAllA hm 5
  have m6 : γ 0 59 0 (ρ 5 + 4) = ρ 11 := zAllA hm 6
  have l0 : ρ 1 ≠ 0 := zAllA hl 0
  have l1 : ρ 2 ≠ 0 := zAllA hl 1
  have l2 : ρ 3 ≠ 0 := zAllA hl 2
  have l3 : ρ 4 ≠ 0 := zAllA hl 3
  obtain ⟨wl_0, wl_1, wl_2, wl_3⟩ : (ρ 1 ≠ 0) ∧ (ρ 2 ≠ 0) ∧ (ρ 3 ≠ 0) ∧ (ρ 4 ≠ 0) := ⟨by omega, by omega, by omega, by omega⟩
  show sn13 [ρ 0, ρ 1, ρ 2, ρ 3, ρ 4, ρ 5, ρ 6] (γ 0) 0 1 (γ 0)
  refine Eq.symm ?_
  show fn13 [ρ 0, ρ 1, ρ 2, ρ 3, ρ 4] (γ 0) = _
  unfold fn13
  refine zLV (ρ 0) rfl (zLV (ρ 1) rfl (zLV (ρ 2) rfl (zLV (ρ 3) rfl (zLV (ρ 4) rfl (zLE m0 (zLE m1 (zIP wl_0 ?_)))))))
  refine zIP wl_1 (zIP wl_2 (zIP wl_3 (zIN w_0 (zLE m2 (zIN w_1 (zLE m3 (zIN w_2 ?_)))))))
  refine zLE m4 (zIN w_3 (zLE m5 (zIN w_4 (zLE m6 (zIN w_5 ?_)))))
  rfl
theorem vn13_7 {S : Nat → zSpc}  {a : List Int} {g : rHp} : ∀ (ρ : Nat → Int) (γ : Nat → rHp), zO 7 S a g q13_7 ρ γ → zGl (fun _ _ _ => True) (sn13 a g) q13_7 ρ γ := by
  intro ρ γ h
  obtain ⟨ha, hg, hr, hf, hm, hc, hl⟩ := h
  have ha : a = [ρ 0, ρ 1, ρ 2, ρ 3, ρ 4, ρ 5, ρ 6] := ha
  subst ha
  subst hg
  have r1 : ((-2147483648) : Int) ≤ ρ 1 ∧ ρ 1 ≤ 2147483647 := zRnA hr 1
  have r2 : ((-2147483648) : Int) ≤ ρ 2 ∧ ρ 2 ≤ 2147483647 := zRnA hr 2
  have r3 : ((-2147483648) : Int) ≤ ρ 3 ∧ ρ 3 ≤ 2147483647 := zRnA hr 3
  have r4 : (0 : Int) ≤ ρ 4 ∧ ρ 4 ≤ 0 := zRnA hr 4
  have r5 : (0 : Int) ≤ ρ 5 ∧ ρ 5 ≤ 2000 := zRnA hr 5
  have r6 : (0 : Int) ≤ ρ 6 ∧ ρ 6 ≤ 2000 := zRnA hr 6
  have f0 : (0 : Int) ≤ -ρ 6 + -ρ 5 + 2000 := zAllA hf 0
  have w_0 : ¬ (ρ 4 ≠ 0) := by omega
  have m0 : γ 0 15 0 37 = ρ 5 := zAllA hm 0
  have m1 : γ 0 15 0 38 = ρ 6 := zAllA hm 1
  have l0 : ρ 1 ≠ 0 := zAllA hl 0
  have l1 : ρ 2 ≠ 0 := zAllA hl 1
  have l2 : ρ 3 ≠ 0 := zAllA hl 2
  have l3 : ρ 6 ≠ 4 := zAllA hl 3
  obtain ⟨wl_0, wl_1, wl_2, wl_3⟩ : (ρ 1 ≠ 0) ∧ (ρ 2 ≠ 0) ∧ (ρ 3 ≠ 0) ∧ (ρ 6 ≠ 4) := ⟨by omega, by omega, by omega, by omega⟩
  show sn13 [ρ 0, ρ 1, ρ 2, ρ 3, ρ 4, ρ 5, ρ 6] (γ 0) 0 0 (γ 0)
  refine Eq.symm ?_
  show fn13 [ρ 0, ρ 1, ρ 2, ρ 3, ρ 4] (γ 0) = _
  unfold fn13
  refine zLV (ρ 0) rfl (zLV (ρ 1) rfl (zLV (ρ 2) rfl (zLV (ρ 3) rfl (zLV (ρ 4) rfl (zLE m0 (zLE m1 (zIP wl_0 ?_)))))))
  refine zIP wl_1 (zIP wl_2 (zIN w_0 (zIP wl_3 ?_)))
  rfl
theorem vn13_8 {S : Nat → zSpc}  {a : List Int} {g : rHp} : ∀ (ρ : Nat → Int) (γ : Nat → rHp), zO 7 S a g q13_8 ρ γ → zGl (fun _ _ _ => True) (sn13 a g) q13_8 ρ γ := by
  intro ρ γ h
  obtain ⟨ha, hg, hr, hf, hm, hc, hl⟩ := h
  have ha : a = [ρ 0, ρ 1, ρ 2, ρ 3, ρ 4, ρ 5, ρ 6] := ha
  subst ha
  subst hg
  have r0 : ((-2147483648) : Int) ≤ ρ 0 ∧ ρ 0 ≤ 2147483647 := zRnA hr 0
  have r1 : ((-2147483648) : Int) ≤ ρ 1 ∧ ρ 1 ≤ 2147483647 := zRnA hr 1
  have r2 : ((-2147483648) : Int) ≤ ρ 2 ∧ ρ 2 ≤ 2147483647 := zRnA hr 2
  have r3 : ((-2147483648) : Int) ≤ ρ 3 ∧ ρ 3 ≤ 2147483647 := zRnA hr 3
  have r4 : (0 : Int) ≤ ρ 4 ∧ ρ 4 ≤ 0 := zRnA hr 4
  have r6 : (4 : Int) ≤ ρ 6 ∧ ρ 6 ≤ 4 := zRnA hr 6
  have r7 : ((-128) : Int) ≤ ρ 7 ∧ ρ 7 ≤ 127 := zRnA hr 7
  obtain ⟨w_0, w_1⟩ : (¬ (ρ 4 ≠ 0)) ∧ (¬ (ρ 6 ≠ 4)) := ⟨by omega, by omega⟩
  have m0 : γ 0 15 0 37 = ρ 5 := zAllA hm 0
  have m1 : γ 0 15 0 38 = ρ 6 := zAllA hm 1
  have m2 : γ 0 59 0 (ρ 5) = ρ 7 := zAllA hm 2
  have l0 : ρ 1 ≠ 0 := zAllA hl 0
  have l1 : ρ 2 ≠ 0 := zAllA hl 1
  have l2 : ρ 3 ≠ 0 := zAllA hl 2
  have l3 : ρ 7 ≠ ρ 0 := zAllA hl 3
  obtain ⟨wl_0, wl_1, wl_2, wl_3⟩ : (ρ 1 ≠ 0) ∧ (ρ 2 ≠ 0) ∧ (ρ 3 ≠ 0) ∧ (ρ 7 ≠ ρ 0) := ⟨by omega, by omega, by omega, by omega⟩
  show sn13 [ρ 0, ρ 1, ρ 2, ρ 3, ρ 4, ρ 5, ρ 6] (γ 0) 0 0 (γ 0)
  refine Eq.symm ?_
  show fn13 [ρ 0, ρ 1, ρ 2, ρ 3, ρ 4] (γ 0) = _
  unfold fn13
  refine zLV (ρ 0) rfl (zLV (ρ 1) rfl (zLV (ρ 2) rfl (zLV (ρ 3) rfl (zLV (ρ 4) rfl (zLE m0 (zLE m1 (zIP wl_0 ?_)))))))
  refine zIP wl_1 (zIP wl_2 (zIN w_0 (zIN w_1 (zLE m2 (zIP wl_3 ?_)))))
  rfl
theorem vn13_9 {S : Nat → zSpc}  {a : List Int} {g : rHp} : ∀ (ρ : Nat → Int) (γ : Nat → rHp), zO 7 S a g q13_9 ρ γ → zGl (fun _ _ _ => True) (sn13 a g) q13_9 ρ γ := by
  intro ρ γ h
  obtain ⟨ha, hg, hr, hf, hm, hc, hl⟩ := h
  have ha : a = [ρ 0, ρ 1, ρ 2, ρ 3, ρ 4, ρ 5, ρ 6] := ha
  subst ha
  subst hg
  have r1 : ((-2147483648) : Int) ≤ ρ 1 ∧ ρ 1 ≤ 2147483647 := zRnA hr 1
  have r2 : ((-2147483648) : Int) ≤ ρ 2 ∧ ρ 2 ≤ 2147483647 := zRnA hr 2
  have r3 : ((-2147483648) : Int) ≤ ρ 3 ∧ ρ 3 ≤ 2147483647 := zRnA hr 3
  have r4 : (0 : Int) ≤ ρ 4 ∧ ρ 4 ≤ 0 := zRnA hr 4
  have r6 : (4 : Int) ≤ ρ 6 ∧ ρ 6 ≤ 4 := zRnA hr 6
  have r8 : ((-128) : Int) ≤ ρ 8 ∧ ρ 8 ≤ 127 := zRnA hr 8
  have f0 : (0 : Int) ≤ -ρ 7 + ρ 0 := zAllA hf 0
  have f1 : (0 : Int) ≤ ρ 7 + -ρ 0 := zAllA hf 1
  obtain ⟨w_0, w_1, w_2⟩ : (¬ (ρ 4 ≠ 0)) ∧ (¬ (ρ 6 ≠ 4)) ∧ (¬ (ρ 7 ≠ ρ 0)) := ⟨by omega, by omega, by omega⟩
  have m0 : γ 0 15 0 37 = ρ 5 := zAllA hm 0
  have m1 : γ 0 15 0 38 = ρ 6 := zAllA hm 1
  have m2 : γ 0 59 0 (ρ 5) = ρ 7 := zAllA hm 2
  have m3 : γ 0 59 0 (ρ 5 + 1) = ρ 8 := zAllA hm 3
  have l0 : ρ 1 ≠ 0 := zAllA hl 0
  have l1 : ρ 2 ≠ 0 := zAllA hl 1
  have l2 : ρ 3 ≠ 0 := zAllA hl 2
  have l3 : ρ 8 ≠ ρ 1 := zAllA hl 3
  obtain ⟨wl_0, wl_1, wl_2, wl_3⟩ : (ρ 1 ≠ 0) ∧ (ρ 2 ≠ 0) ∧ (ρ 3 ≠ 0) ∧ (ρ 8 ≠ ρ 1) := ⟨by omega, by omega, by omega, by omega⟩
  show sn13 [ρ 0, ρ 1, ρ 2, ρ 3, ρ 4, ρ 5, ρ 6] (γ 0) 0 0 (γ 0)
  refine Eq.symm ?_
  show fn13 [ρ 0, ρ 1, ρ 2, ρ 3, ρ 4] (γ 0) = _
  unfold fn13
  refine zLV (ρ 0) rfl (zLV (ρ 1) rfl (zLV (ρ 2) rfl (zLV (ρ 3) rfl (zLV (ρ 4) rfl (zLE m0 (zLE m1 (zIP wl_0 ?_)))))))
  refine zIP wl_1 (zIP wl_2 (zIN w_0 (zIN w_1 (zLE m2 (zIN w_2 (zLE m3 (zIP wl_3 ?_)))))))
  rfl
theorem vn13_10 {S : Nat → zSpc}  {a : List Int} {g : rHp} : ∀ (ρ : Nat → Int) (γ : Nat → rHp), zO 7 S a g q13_10 ρ γ → zGl (fun _ _ _ => True) (sn13 a g) q13_10 ρ γ := by
  intro ρ γ h
  obtain ⟨ha, hg, hr, hf, hm, hc, hl⟩ := h
  have ha : a = [ρ 0, ρ 1, ρ 2, ρ 3, ρ 4, ρ 5, ρ 6] := ha
  subst ha
  subst hg
  have r1 : ((-2147483648) : Int) ≤ ρ 1 ∧ ρ 1 ≤ 2147483647 := zRnA hr 1
  have r2 : ((-2147483648) : Int) ≤ ρ 2 ∧ ρ 2 ≤ 2147483647 := zRnA hr 2
  have r3 : ((-2147483648) : Int) ≤ ρ 3 ∧ ρ 3 ≤ 2147483647 := zRnA hr 3
  have r4 : (0 : Int) ≤ ρ 4 ∧ ρ 4 ≤ 0 := zRnA hr 4
  have r6 : (4 : Int) ≤ ρ 6 ∧ ρ 6 ≤ 4 := zRnA hr 6
  have r8 : ((-128) : Int) ≤ ρ 8 ∧ ρ 8 ≤ 127 := zRnA hr 8
  have r9 : ((-128) : Int) ≤ ρ 9 ∧ ρ 9 ≤ 127 := zRnA hr 9
  have f0 : (0 : Int) ≤ -ρ 8 + ρ 1 := zAllA hf 0
  have f1 : (0 : Int) ≤ ρ 8 + -ρ 1 := zAllA hf 1
  have f2 : (0 : Int) ≤ -ρ 7 + ρ 0 := zAllA hf 2
  have f3 : (0 : Int) ≤ ρ 7 + -ρ 0 := zAllA hf 3
  obtain ⟨w_0, w_1, w_2, w_3⟩ : (¬ (ρ 4 ≠ 0)) ∧ (¬ (ρ 6 ≠ 4)) ∧ (¬ (ρ 7 ≠ ρ 0)) ∧ (¬ (ρ 8 ≠ ρ 1)) := ⟨by omega, by omega, by omega, by omega⟩
  have m0 : γ 0 15 0 37 = ρ 5 := zAllA hm 0
  have m1 : γ 0 15 0 38 = ρ 6 := zAllA hm 1
  have m2 : γ 0 59 0 (ρ 5) = ρ 7 := zAllA hm 2
  have m3 : γ 0 59 0 (ρ 5 + 1) = ρ 8 := zAllA hm 3
  have m4 : γ 0 59 0 (ρ 5 + 2) = ρ 9 := zAllA hm 4
  have l0 : ρ 1 ≠ 0 := zAllA hl 0
  have l1 : ρ 2 ≠ 0 := zAllA hl 1
  have l2 : ρ 3 ≠ 0 := zAllA hl 2
  have l3 : ρ 9 ≠ ρ 2 := zAllA hl 3
  obtain ⟨wl_0, wl_1, wl_2, wl_3⟩ : (ρ 1 ≠ 0) ∧ (ρ 2 ≠ 0) ∧ (ρ 3 ≠ 0) ∧ (ρ 9 ≠ ρ 2) := ⟨by omega, by omega, by omega, by omega⟩
  show sn13 [ρ 0, ρ 1, ρ 2, ρ 3, ρ 4, ρ 5, ρ 6] (γ 0) 0 0 (γ 0)
  refine Eq.symm ?_
  show fn13 [ρ 0, ρ 1, ρ 2, ρ 3, ρ 4] (γ 0) = _
  unfold fn13
  refine zLV (ρ 0) rfl (zLV (ρ 1) rfl (zLV (ρ 2) rfl (zLV (ρ 3) rfl (zLV (ρ 4) rfl (zLE m0 (zLE m1 (zIP wl_0 ?_)))))))
  refine zIP wl_1 (zIP wl_2 (zIN w_0 (zIN w_1 (zLE m2 (zIN w_2 (zLE m3 (zIN w_3 ?_)))))))
  refine zLE m4 (zIP wl_3 ?_)
  rfl
theorem vn13_11 {S : Nat → zSpc}  {a : List Int} {g : rHp} : ∀ (ρ : Nat → Int) (γ : Nat → rHp), zO 7 S a g q13_11 ρ γ → zGl (fun _ _ _ => True) (sn13 a g) q13_11 ρ γ := by
  intro ρ γ h
  obtain ⟨ha, hg, hr, hf, hm, hc, hl⟩ := h
  have ha : a = [ρ 0, ρ 1, ρ 2, ρ 3, ρ 4, ρ 5, ρ 6] := ha
  subst ha
  subst hg
  have r1 : ((-2147483648) : Int) ≤ ρ 1 ∧ ρ 1 ≤ 2147483647 := zRnA hr 1
  have r2 : ((-2147483648) : Int) ≤ ρ 2 ∧ ρ 2 ≤ 2147483647 := zRnA hr 2
  have r3 : ((-2147483648) : Int) ≤ ρ 3 ∧ ρ 3 ≤ 2147483647 := zRnA hr 3
  have r4 : (0 : Int) ≤ ρ 4 ∧ ρ 4 ≤ 0 := zRnA hr 4
  have r6 : (4 : Int) ≤ ρ 6 ∧ ρ 6 ≤ 4 := zRnA hr 6
  have r8 : ((-128) : Int) ≤ ρ 8 ∧ ρ 8 ≤ 127 := zRnA hr 8
  have r9 : ((-128) : Int) ≤ ρ 9 ∧ ρ 9 ≤ 127 := zRnA hr 9
  have r10 : ((-128) : Int) ≤ ρ 10 ∧ ρ 10 ≤ 127 := zRnA hr 10
  have f0 : (0 : Int) ≤ -ρ 9 + ρ 2 := zAllA hf 0
  have f1 : (0 : Int) ≤ ρ 9 + -ρ 2 := zAllA hf 1
  have f2 : (0 : Int) ≤ -ρ 8 + ρ 1 := zAllA hf 2
  have f3 : (0 : Int) ≤ ρ 8 + -ρ 1 := zAllA hf 3
  have f4 : (0 : Int) ≤ -ρ 7 + ρ 0 := zAllA hf 4
  have f5 : (0 : Int) ≤ ρ 7 + -ρ 0 := zAllA hf 5
  obtain ⟨w_0, w_1, w_2, w_3, w_4⟩ : (¬ (ρ 4 ≠ 0)) ∧ (¬ (ρ 6 ≠ 4)) ∧ (¬ (ρ 7 ≠ ρ 0)) ∧ (¬ (ρ 8 ≠ ρ 1)) ∧ (¬ (ρ 9 ≠ ρ 2)) := ⟨by clear r1 r2 r3 r6 r8 r9 r10 f0 f1 f2 f3 f4 f5; omega, by clear r1 r2 r3 r4 r8 r9 r10 f0 f1 f2 f3 f4 f5; omega, by clear r1 r2 r3 r4 r6 r8 r9 r10 f0 f1 f2 f3; omega, by clear r1 r2 r3 r4 r6 r8 r9 r10 f0 f1 f4 f5; omega, by clear r1 r2 r3 r4 r6 r8 r9 r10 f2 f3 f4 f5; omega⟩
  have m0 : γ 0 15 0 37 = ρ 5 := zAllA hm 0
  have m1 : γ 0 15 0 38 = ρ 6 := zAllA hm 1
  have m2 : γ 0 59 0 (ρ 5) = ρ 7 := zAllA hm 2
  have m3 : γ 0 59 0 (ρ 5 + 1) = ρ 8 := zAllA hm 3
  have m4 : γ 0 59 0 (ρ 5 + 2) = ρ 9 := zAllA hm 4
  have m5 : γ 0 59 0 (ρ 5 + 3) = ρ 10 := zAllA hm 5
  have l0 : ρ 1 ≠ 0 := zAllA hl 0
  have l1 : ρ 2 ≠ 0 := zAllA hl 1
  have l2 : ρ 3 ≠ 0 := zAllA hl 2
  have l3 : ρ 10 ≠ ρ 3 := zAllA hl 3
  obtain ⟨wl_0, wl_1, wl_2, wl_3⟩ : (ρ 1 ≠ 0) ∧ (ρ 2 ≠ 0) ∧ (ρ 3 ≠ 0) ∧ (ρ 10 ≠ ρ 3) := ⟨by omega, by omega, by omega, by omega⟩
  show sn13 [ρ 0, ρ 1, ρ 2, ρ 3, ρ 4, ρ 5, ρ 6] (γ 0) 0 0 (γ 0)
  refine Eq.symm ?_
  show fn13 [ρ 0, ρ 1, ρ 2, ρ 3, ρ 4] (γ 0) = _
  unfold fn13
  refine zLV (ρ 0) rfl (zLV (ρ 1) rfl (zLV (ρ 2) rfl (zLV (ρ 3) rfl (zLV (ρ 4) rfl (zLE m0 (zLE m1 (zIP wl_0 ?_)))))))
  refine zIP wl_1 (zIP wl_2 (zIN w_0 (zIN w_1 (zLE m2 (zIN w_2 (zLE m3 (zIN w_3 ?_)))))))
  refine zLE m4 (zIN w_4 (zLE m5 (zIP wl_3 ?_)))
  rfl
theorem vn13_12 {S : Nat → zSpc}  {a : List Int} {g : rHp} : ∀ (ρ : Nat → Int) (γ : Nat → rHp), zO 7 S a g q13_12 ρ γ → zGl (fun _ _ _ => True) (sn13 a g) q13_12 ρ γ := by
  intro ρ γ h
  obtain ⟨ha, hg, hr, hf, hm, hc, hl⟩ := h
  have ha : a = [ρ 0, ρ 1, ρ 2, ρ 3, ρ 4, ρ 5, ρ 6] := ha
  subst ha
  subst hg
  have r1 : ((-2147483648) : Int) ≤ ρ 1 ∧ ρ 1 ≤ 2147483647 := zRnA hr 1
  have r2 : ((-2147483648) : Int) ≤ ρ 2 ∧ ρ 2 ≤ 2147483647 := zRnA hr 2
  have r3 : ((-2147483648) : Int) ≤ ρ 3 ∧ ρ 3 ≤ 2147483647 := zRnA hr 3
  have r4 : (0 : Int) ≤ ρ 4 ∧ ρ 4 ≤ 0 := zRnA hr 4
  have r6 : (4 : Int) ≤ ρ 6 ∧ ρ 6 ≤ 4 := zRnA hr 6
  have r8 : ((-128) : Int) ≤ ρ 8 ∧ ρ 8 ≤ 127 := zRnA hr 8
  have r9 : ((-128) : Int) ≤ ρ 9 ∧ ρ 9 ≤ 127 := zRnA hr 9
  have r10 : ((-128) : Int) ≤ ρ 10 ∧ ρ 10 ≤ 127 := zRnA hr 10
  have f0 : (0 : Int) ≤ -ρ 10 + ρ 3 := zAllA hf 0
  have f1 : (0 : Int) ≤ ρ 10 + -ρ 3 := zAllA hf 1
  have f2 : (0 : Int) ≤ -ρ 9 + ρ 2 := zAllA hf 2
  have f3 : (0 : Int) ≤ ρ 9 + -ρ 2 := zAllA hf 3
  have f4 : (0 : Int) ≤ -ρ 8 + ρ 1 := zAllA hf 4
  have f5 : (0 : Int) ≤ ρ 8 + -ρ 1 := zAllA hf 5
  have f6 : (0 : Int) ≤ -ρ 7 + ρ 0 := zAllA hf 6
  have f7 : (0 : Int) ≤ ρ 7 + -ρ 0 := zAllA hf 7
  obtain ⟨w_0, w_1, w_2, w_3, w_4, w_5⟩ : (¬ (ρ 4 ≠ 0)) ∧ (¬ (ρ 6 ≠ 4)) ∧ (¬ (ρ 7 ≠ ρ 0)) ∧ (¬ (ρ 8 ≠ ρ 1)) ∧ (¬ (ρ 9 ≠ ρ 2)) ∧ (¬ (ρ 10 ≠ ρ 3)) := ⟨by clear r1 r2 r3 r6 r8 r9 r10 f0 f1 f2 f3 f4 f5 f6 f7; omega, by clear r1 r2 r3 r4 r8 r9 r10 f0 f1 f2 f3 f4 f5 f6 f7; omega, by clear r1 r2 r3 r4 r6 r8 r9 r10 f0 f1 f2 f3 f4 f5; omega, by clear r1 r2 r3 r4 r6 r8 r9 r10 f0 f1 f2 f3 f6 f7; omega, by clear r1 r2 r3 r4 r6 r8 r9 r10 f0 f1 f4 f5 f6 f7; omega, by clear r1 r2 r3 r4 r6 r8 r9 r10 f2 f3 f4 f5 f6 f7; omega⟩
  have m0 : γ 0 15 0 37 = ρ 5 := zAllA hm 0
  have m1 : γ 0 15 0 38 = ρ 6 := zAllA hm 1
  have m2 : γ 0 59 0 (ρ 5) = ρ 7 := zAllA hm 2
  have m3 : γ 0 59 0 (ρ 5 + 1) = ρ 8 := zAllA hm 3
  have m4 : γ 0 59 0 (ρ 5 + 2) = ρ 9 := zAllA hm 4
  have m5 : γ 0 59 0 (ρ 5 + 3) = ρ 10 := zAllA hm 5
  have l0 : ρ 1 ≠ 0 := zAllA hl 0
  have l1 : ρ 2 ≠ 0 := zAllA hl 1
  have l2 : ρ 3 ≠ 0 := zAllA hl 2
  obtain ⟨wl_0, wl_1, wl_2⟩ : (ρ 1 ≠ 0) ∧ (ρ 2 ≠ 0) ∧ (ρ 3 ≠ 0) := ⟨by omega, by omega, by omega⟩
  show sn13 [ρ 0, ρ 1, ρ 2, ρ 3, ρ 4, ρ 5, ρ 6] (γ 0) 0 1 (γ 0)
  refine Eq.symm ?_
  show fn13 [ρ 0, ρ 1, ρ 2, ρ 3, ρ 4] (γ 0) = _
  unfold fn13
  refine zLV (ρ 0) rfl (zLV (ρ 1) rfl (zLV (ρ 2) rfl (zLV (ρ 3) rfl (zLV (ρ 4) rfl (zLE m0 (zLE m1 (zIP wl_0 ?_)))))))
  refine zIP wl_1 (zIP wl_2 (zIN w_0 (zIN w_1 (zLE m2 (zIN w_2 (zLE m3 (zIN w_3 ?_)))))))
  refine zLE m4 (zIN w_4 (zLE m5 (zIN w_5 ?_)))
  rfl
theorem vn13_13 {S : Nat → zSpc}  {a : List Int} {g : rHp} : ∀ (ρ : Nat → Int) (γ : Nat → rHp), zO 7 S a g q13_13 ρ γ → zGl (fun _ _ _ => True) (sn13 a g) q13_13 ρ γ := by
  intro ρ γ h
  obtain ⟨ha, hg, hr, hf, hm, hc, hl⟩ := h
  have ha : a = [ρ 0, ρ 1, ρ 2, ρ 3, ρ 4, ρ 5, ρ 6] := ha
  subst ha
  subst hg
  have r1 : ((-2147483648) : Int) ≤ ρ 1 ∧ ρ 1 ≤ 2147483647 := zRnA hr 1
  have r2 : ((-2147483648) : Int) ≤ ρ 2 ∧ ρ 2 ≤ 2147483647 := zRnA hr 2
  have r3 : (0 : Int) ≤ ρ 3 ∧ ρ 3 ≤ 0 := zRnA hr 3
  have r5 : (0 : Int) ≤ ρ 5 ∧ ρ 5 ≤ 2000 := zRnA hr 5
  have r6 : (0 : Int) ≤ ρ 6 ∧ ρ 6 ≤ 2000 := zRnA hr 6
  have f0 : (0 : Int) ≤ -ρ 6 + -ρ 5 + 2000 := zAllA hf 0
  have w_0 : ¬ (ρ 3 ≠ 0) := by omega
  have m0 : γ 0 15 0 37 = ρ 5 := zAllA hm 0
  have m1 : γ 0 15 0 38 = ρ 6 := zAllA hm 1
  have l0 : ρ 1 ≠ 0 := zAllA hl 0
  have l1 : ρ 2 ≠ 0 := zAllA hl 1
  have l2 : ρ 6 ≠ 3 := zAllA hl 2
  obtain ⟨wl_0, wl_1, wl_2⟩ : (ρ 1 ≠ 0) ∧ (ρ 2 ≠ 0) ∧ (ρ 6 ≠ 3) := ⟨by omega, by omega, by omega⟩
  show sn13 [ρ 0, ρ 1, ρ 2, ρ 3, ρ 4, ρ 5, ρ 6] (γ 0) 0 0 (γ 0)
  refine Eq.symm ?_
  show fn13 [ρ 0, ρ 1, ρ 2, ρ 3, ρ 4] (γ 0) = _
  unfold fn13
  refine zLV (ρ 0) rfl (zLV (ρ 1) rfl (zLV (ρ 2) rfl (zLV (ρ 3) rfl (zLV (ρ 4) rfl (zLE m0 (zLE m1 (zIP wl_0 ?_)))))))
  refine zIP wl_1 (zIN w_0 (zIP wl_2 ?_))
  rfl
theorem vn13_14 {S : Nat → zSpc}  {a : List Int} {g : rHp} : ∀ (ρ : Nat → Int) (γ : Nat → rHp), zO 7 S a g q13_14 ρ γ → zGl (fun _ _ _ => True) (sn13 a g) q13_14 ρ γ := by
  intro ρ γ h
  obtain ⟨ha, hg, hr, hf, hm, hc, hl⟩ := h
  have ha : a = [ρ 0, ρ 1, ρ 2, ρ 3, ρ 4, ρ 5, ρ 6] := ha
  subst ha
  subst hg
  have r0 : ((-2147483648) : Int) ≤ ρ 0 ∧ ρ 0 ≤ 2147483647 := zRnA hr 0
  have r1 : ((-2147483648) : Int) ≤ ρ 1 ∧ ρ 1 ≤ 2147483647 := zRnA hr 1
  have r2 : ((-2147483648) : Int) ≤ ρ 2 ∧ ρ 2 ≤ 2147483647 := zRnA hr 2
  have r3 : (0 : Int) ≤ ρ 3 ∧ ρ 3 ≤ 0 := zRnA hr 3
  have r6 : (3 : Int) ≤ ρ 6 ∧ ρ 6 ≤ 3 := zRnA hr 6
  have r7 : ((-128) : Int) ≤ ρ 7 ∧ ρ 7 ≤ 127 := zRnA hr 7
  obtain ⟨w_0, w_1⟩ : (¬ (ρ 3 ≠ 0)) ∧ (¬ (ρ 6 ≠ 3)) := ⟨by omega, by omega⟩
  have m0 : γ 0 15 0 37 = ρ 5 := zAllA hm 0
  have m1 : γ 0 15 0 38 = ρ 6 := zAllA hm 1
  have m2 : γ 0 59 0 (ρ 5) = ρ 7 := zAllA hm 2
  have l0 : ρ 1 ≠ 0 := zAllA hl 0
  have l1 : ρ 2 ≠ 0 := zAllA hl 1
  have l2 : ρ 7 ≠ ρ 0 := zAllA hl 2
  obtain ⟨wl_0, wl_1, wl_2⟩ : (ρ 1 ≠ 0) ∧ (ρ 2 ≠ 0) ∧ (ρ 7 ≠ ρ 0) := ⟨by omega, by omega, by omega⟩
  show sn13 [ρ 0, ρ 1, ρ 2, ρ 3, ρ 4, ρ 5, ρ 6] (γ 0) 0 0 (γ 0)
  refine Eq.symm ?_
  show fn13 [ρ 0, ρ 1, ρ 2, ρ 3, ρ 4] (γ 0) = _
  unfold fn13
  refine zLV (ρ 0) rfl (zLV (ρ 1) rfl (zLV (ρ 2) rfl (zLV (ρ 3) rfl (zLV (ρ 4) rfl (zLE m0 (zLE m1 (zIP wl_0 ?_)))))))
  refine zIP wl_1 (zIN w_0 (zIN w_1 (zLE m2 (zIP wl_2 ?_))))
  rfl
theorem vn13_15 {S : Nat → zSpc}  {a : List Int} {g : rHp} : ∀ (ρ : Nat → Int) (γ : Nat → rHp), zO 7 S a g q13_15 ρ γ → zGl (fun _ _ _ => True) (sn13 a g) q13_15 ρ γ := by
  intro ρ γ h
  obtain ⟨ha, hg, hr, hf, hm, hc, hl⟩ := h
  have ha : a = [ρ 0, ρ 1, ρ 2, ρ 3, ρ 4, ρ 5, ρ 6] := ha
  subst ha
  subst hg
  have r1 : ((-2147483648) : Int) ≤ ρ 1 ∧ ρ 1 ≤ 2147483647 := zRnA hr 1
  have r2 : ((-2147483648) : Int) ≤ ρ 2 ∧ ρ 2 ≤ 2147483647 := zRnA hr 2
  have r3 : (0 : Int) ≤ ρ 3 ∧ ρ 3 ≤ 0 := zRnA hr 3
  have r6 : (3 : Int) ≤ ρ 6 ∧ ρ 6 ≤ 3 := zRnA hr 6
  have r8 : ((-128) : Int) ≤ ρ 8 ∧ ρ 8 ≤ 127 := zRnA hr 8
  have f0 : (0 : Int) ≤ -ρ 7 + ρ 0 := zAllA hf 0
  have f1 : (0 : Int) ≤ ρ 7 + -ρ 0 := zAllA hf 1
  obtain ⟨w_0, w_1, w_2⟩ : (¬ (ρ 3 ≠ 0)) ∧ (¬ (ρ 6 ≠ 3)) ∧ (¬ (ρ 7 ≠ ρ 0)) := ⟨by omega, by omega, by omega⟩
  have m0 : γ 0 15 0 37 = ρ 5 := zAllA hm 0
  have m1 : γ 0 15 0 38 = ρ 6 := zAllA hm 1
  have m2 : γ 0 59 0 (ρ 5) = ρ 7 := zAllA hm 2
  have m3 : γ 0 59 0 (ρ 5 + 1) = ρ 8 := zAllA hm 3
  have l0 : ρ 1 ≠ 0 := zAllA hl 0
  have l1 : ρ 2 ≠ 0 := zAllA hl 1
  have l2 : ρ 8 ≠ ρ 1 := zAllA hl 2
  obtain ⟨wl_0, wl_1, wl_2⟩ : (ρ 1 ≠ 0) ∧ (ρ 2 ≠ 0) ∧ (ρ 8 ≠ ρ 1) := ⟨by omega, by omega, by omega⟩
  show sn13 [ρ 0, ρ 1, ρ 2, ρ 3, ρ 4, ρ 5, ρ 6] (γ 0) 0 0 (γ 0)
  refine Eq.symm ?_
  show fn13 [ρ 0, ρ 1, ρ 2, ρ 3, ρ 4] (γ 0) = _
  unfold fn13
  refine zLV (ρ 0) rfl (zLV (ρ 1) rfl (zLV (ρ 2) rfl (zLV (ρ 3) rfl (zLV (ρ 4) rfl (zLE m0 (zLE m1 (zIP wl_0 ?_)))))))
  refine zIP wl_1 (zIN w_0 (zIN w_1 (zLE m2 (zIN w_2 (zLE m3 (zIP wl_2 ?_))))))
  rfl
theorem vn13_16 {S : Nat → zSpc}  {a : List Int} {g : rHp} : ∀ (ρ : Nat → Int) (γ : Nat → rHp), zO 7 S a g q13_16 ρ γ → zGl (fun _ _ _ => True) (sn13 a g) q13_16 ρ γ := by
  intro ρ γ h
  obtain ⟨ha, hg, hr, hf, hm, hc, hl⟩ := h
  have ha : a = [ρ 0, ρ 1, ρ 2, ρ 3, ρ 4, ρ 5, ρ 6] := ha
  subst ha
  subst hg
  have r1 : ((-2147483648) : Int) ≤ ρ 1 ∧ ρ 1 ≤ 2147483647 := zRnA hr 1
  have r2 : ((-2147483648) : Int) ≤ ρ 2 ∧ ρ 2 ≤ 2147483647 := zRnA hr 2
  have r3 : (0 : Int) ≤ ρ 3 ∧ ρ 3 ≤ 0 := zRnA hr 3
  have r6 : (3 : Int) ≤ ρ 6 ∧ ρ 6 ≤ 3 := zRnA hr 6
  have r8 : ((-128) : Int) ≤ ρ 8 ∧ ρ 8 ≤ 127 := zRnA hr 8
  have r9 : ((-128) : Int) ≤ ρ 9 ∧ ρ 9 ≤ 127 := zRnA hr 9
  have f0 : (0 : Int) ≤ -ρ 8 + ρ 1 := zAllA hf 0
  have f1 : (0 : Int) ≤ ρ 8 + -ρ 1 := zAllA hf 1
  have f2 : (0 : Int) ≤ -ρ 7 + ρ 0 := zAllA hf 2
  have f3 : (0 : Int) ≤ ρ 7 + -ρ 0 := zAllA hf 3
  obtain ⟨w_0, w_1, w_2, w_3⟩ : (¬ (ρ 3 ≠ 0)) ∧ (¬ (ρ 6 ≠ 3)) ∧ (¬ (ρ 7 ≠ ρ 0)) ∧ (¬ (ρ 8 ≠ ρ 1)) := ⟨by omega, by omega, by omega, by omega⟩
  have m0 : γ 0 15 0 37 = ρ 5 := zAllA hm 0
  have m1 : γ 0 15 0 38 = ρ 6 := zAllA hm 1
  have m2 : γ 0 59 0 (ρ 5) = ρ 7 := zAllA hm 2
  have m3 : γ 0 59 0 (ρ 5 + 1) = ρ 8 := zAllA hm 3
  have m4 : γ 0 59 0 (ρ 5 + 2) = ρ 9 := zAllA hm 4
  have l0 : ρ 1 ≠ 0 := zAllA hl 0
  have l1 : ρ 2 ≠ 0 := zAllA hl 1
  have l2 : ρ 9 ≠ ρ 2 := zAllA hl 2
  obtain ⟨wl_0, wl_1, wl_2⟩ : (ρ 1 ≠ 0) ∧ (ρ 2 ≠ 0) ∧ (ρ 9 ≠ ρ 2) := ⟨by omega, by omega, by omega⟩
  show sn13 [ρ 0, ρ 1, ρ 2, ρ 3, ρ 4, ρ 5, ρ 6] (γ 0) 0 0 (γ 0)
  refine Eq.symm ?_
  show fn13 [ρ 0, ρ 1, ρ 2, ρ 3, ρ 4] (γ 0) = _
  unfold fn13
  refine zLV (ρ 0) rfl (zLV (ρ 1) rfl (zLV (ρ 2) rfl (zLV (ρ 3) rfl (zLV (ρ 4) rfl (zLE m0 (zLE m1 (zIP wl_0 ?_)))))))
  refine zIP wl_1 (zIN w_0 (zIN w_1 (zLE m2 (zIN w_2 (zLE m3 (zIN w_3 (zLE m4 ?_)))))))
  refine zIP wl_2 ?_
  rfl
theorem vn13_17 {S : Nat → zSpc}  {a : List Int} {g : rHp} : ∀ (ρ : Nat → Int) (γ : Nat → rHp), zO 7 S a g q13_17 ρ γ → zGl (fun _ _ _ => True) (sn13 a g) q13_17 ρ γ := by
  intro ρ γ h
  obtain ⟨ha, hg, hr, hf, hm, hc, hl⟩ := h
  have ha : a = [ρ 0, ρ 1, ρ 2, ρ 3, ρ 4, ρ 5, ρ 6] := ha
  subst ha
  subst hg
  have r1 : ((-2147483648) : Int) ≤ ρ 1 ∧ ρ 1 ≤ 2147483647 := zRnA hr 1
  have r2 : ((-2147483648) : Int) ≤ ρ 2 ∧ ρ 2 ≤ 2147483647 := zRnA hr 2
  have r3 : (0 : Int) ≤ ρ 3 ∧ ρ 3 ≤ 0 := zRnA hr 3
  have r6 : (3 : Int) ≤ ρ 6 ∧ ρ 6 ≤ 3 := zRnA hr 6
  have r8 : ((-128) : Int) ≤ ρ 8 ∧ ρ 8 ≤ 127 := zRnA hr 8
  have r9 : ((-128) : Int) ≤ ρ 9 ∧ ρ 9 ≤ 127 := zRnA hr 9
  have f0 : (0 : Int) ≤ -ρ 9 + ρ 2 := zAllA hf 0
  have f1 : (0 : Int) ≤ ρ 9 + -ρ 2 := zAllA hf 1
  have f2 : (0 : Int) ≤ -ρ 8 + ρ 1 := zAllA hf 2
  have f3 : (0 : Int) ≤ ρ 8 + -ρ 1 := zAllA hf 3
  have f4 : (0 : Int) ≤ -ρ 7 + ρ 0 := zAllA hf 4
  have f5 : (0 : Int) ≤ ρ 7 + -ρ 0 := zAllA hf 5
  obtain ⟨w_0, w_1, w_2, w_3, w_4⟩ : (¬ (ρ 3 ≠ 0)) ∧ (¬ (ρ 6 ≠ 3)) ∧ (¬ (ρ 7 ≠ ρ 0)) ∧ (¬ (ρ 8 ≠ ρ 1)) ∧ (¬ (ρ 9 ≠ ρ 2)) := ⟨by omega, by omega, by omega, by omega, by omega⟩
  have m0 : γ 0 15 0 37 = ρ 5 := zAllA hm 0
  have m1 : γ 0 15 0 38 = ρ 6 := zAllA hm 1
  have m2 : γ 0 59 0 (ρ 5) = ρ 7 := zAllA hm 2
  have m3 : γ 0 59 0 (ρ 5 + 1) = ρ 8 := zAllA hm 3
  have m4 : γ 0 59 0 (ρ 5 + 2) = ρ 9 := zAllA hm 4
  have l0 : ρ 1 ≠ 0 := zAllA hl 0
  have l1 : ρ 2 ≠ 0 := zAllA hl 1
  obtain ⟨wl_0, wl_1⟩ : (ρ 1 ≠ 0) ∧ (ρ 2 ≠ 0) := ⟨by omega, by omega⟩
  show sn13 [ρ 0, ρ 1, ρ 2, ρ 3, ρ 4, ρ 5, ρ 6] (γ 0) 0 1 (γ 0)
  refine Eq.symm ?_
  show fn13 [ρ 0, ρ 1, ρ 2, ρ 3, ρ 4] (γ 0) = _
  unfold fn13
  refine zLV (ρ 0) rfl (zLV (ρ 1) rfl (zLV (ρ 2) rfl (zLV (ρ 3) rfl (zLV (ρ 4) rfl (zLE m0 (zLE m1 (zIP wl_0 ?_)))))))
  refine zIP wl_1 (zIN w_0 (zIN w_1 (zLE m2 (zIN w_2 (zLE m3 (zIN w_3 (zLE m4 ?_)))))))
  refine zIN w_4 ?_
  rfl
theorem vn13_18 {S : Nat → zSpc}  {a : List Int} {g : rHp} : ∀ (ρ : Nat → Int) (γ : Nat → rHp), zO 7 S a g q13_18 ρ γ → zGl (fun _ _ _ => True) (sn13 a g) q13_18 ρ γ := by
  intro ρ γ h
  obtain ⟨ha, hg, hr, hf, hm, hc, hl⟩ := h
  have ha : a = [ρ 0, ρ 1, ρ 2, ρ 3, ρ 4, ρ 5, ρ 6] := ha
  subst ha
  subst hg
  have r1 : ((-2147483648) : Int) ≤ ρ 1 ∧ ρ 1 ≤ 2147483647 := zRnA hr 1
  have r2 : (0 : Int) ≤ ρ 2 ∧ ρ 2 ≤ 0 := zRnA hr 2
  have r5 : (0 : Int) ≤ ρ 5 ∧ ρ 5 ≤ 2000 := zRnA hr 5
  have r6 : (0 : Int) ≤ ρ 6 ∧ ρ 6 ≤ 2000 := zRnA hr 6
  have f0 : (0 : Int) ≤ -ρ 6 + -ρ 5 + 2000 := zAllA hf 0
  have w_0 : ¬ (ρ 2 ≠ 0) := by omega
  have m0 : γ 0 15 0 37 = ρ 5 := zAllA hm 0
  have m1 : γ 0 15 0 38 = ρ 6 := zAllA hm 1
  have l0 : ρ 1 ≠ 0 := zAllA hl 0
  have l1 : ρ 6 ≠ 2 := zAllA hl 1
  obtain ⟨wl_0, wl_1⟩ : (ρ 1 ≠ 0) ∧ (ρ 6 ≠ 2) := ⟨by omega, by omega⟩
  show sn13 [ρ 0, ρ 1, ρ 2, ρ 3, ρ 4, ρ 5, ρ 6] (γ 0) 0 0 (γ 0)
  refine Eq.symm ?_
  show fn13 [ρ 0, ρ 1, ρ 2, ρ 3, ρ 4] (γ 0) = _
  unfold fn13
  refine zLV (ρ 0) rfl (zLV (ρ 1) rfl (zLV (ρ 2) rfl (zLV (ρ 3) rfl (zLV (ρ 4) rfl (zLE m0 (zLE m1 (zIP wl_0 ?_)))))))
  refine zIN w_0 (zIP wl_1 ?_)
  rfl
theorem vn13_19 {S : Nat → zSpc}  {a : List Int} {g : rHp} : ∀ (ρ : Nat → Int) (γ : Nat → rHp), zO 7 S a g q13_19 ρ γ → zGl (fun _ _ _ => True) (sn13 a g) q13_19 ρ γ := by
  intro ρ γ h
  obtain ⟨ha, hg, hr, hf, hm, hc, hl⟩ := h
  have ha : a = [ρ 0, ρ 1, ρ 2, ρ 3, ρ 4, ρ 5, ρ 6] := ha
  subst ha
  subst hg
  have r0 : ((-2147483648) : Int) ≤ ρ 0 ∧ ρ 0 ≤ 2147483647 := zRnA hr 0
  have r1 : ((-2147483648) : Int) ≤ ρ 1 ∧ ρ 1 ≤ 2147483647 := zRnA hr 1
  have r2 : (0 : Int) ≤ ρ 2 ∧ ρ 2 ≤ 0 := zRnA hr 2
  have r6 : (2 : Int) ≤ ρ 6 ∧ ρ 6 ≤ 2 := zRnA hr 6
  have r7 : ((-128) : Int) ≤ ρ 7 ∧ ρ 7 ≤ 127 := zRnA hr 7
  obtain ⟨w_0, w_1⟩ : (¬ (ρ 2 ≠ 0)) ∧ (¬ (ρ 6 ≠ 2)) := ⟨by omega, by omega⟩
  have m0 : γ 0 15 0 37 = ρ 5 := zAllA hm 0
  have m1 : γ 0 15 0 38 = ρ 6 := zAllA hm 1
  have m2 : γ 0 59 0 (ρ 5) = ρ 7 := zAllA hm 2
  have l0 : ρ 1 ≠ 0 := zAllA hl 0
  have l1 : ρ 7 ≠ ρ 0 := zAllA hl 1
  obtain ⟨wl_0, wl_1⟩ : (ρ 1 ≠ 0) ∧ (ρ 7 ≠ ρ 0) := ⟨by omega, by omega⟩
  show sn13 [ρ 0, ρ 1, ρ 2, ρ 3, ρ 4, ρ 5, ρ 6] (γ 0) 0 0 (γ 0)
  refine Eq.symm ?_
  show fn13 [ρ 0, ρ 1, ρ 2, ρ 3, ρ 4] (γ 0) = _
  unfold fn13
  refine zLV (ρ 0) rfl (zLV (ρ 1) rfl (zLV (ρ 2) rfl (zLV (ρ 3) rfl (zLV (ρ 4) rfl (zLE m0 (zLE m1 (zIP wl_0 ?_)))))))
  refine zIN w_0 (zIN w_1 (zLE m2 (zIP wl_1 ?_)))
  rfl
theorem vn13_20 {S : Nat → zSpc}  {a : List Int} {g : rHp} : ∀ (ρ : Nat → Int) (γ : Nat → rHp), zO 7 S a g q13_20 ρ γ → zGl (fun _ _ _ => True) (sn13 a g) q13_20 ρ γ := by
  intro ρ γ h
  obtain ⟨ha, hg, hr, hf, hm, hc, hl⟩ := h
  have ha : a = [ρ 0, ρ 1, ρ 2, ρ 3, ρ 4, ρ 5, ρ 6] := ha
  subst ha
  subst hg
  have r1 : ((-2147483648) : Int) ≤ ρ 1 ∧ ρ 1 ≤ 2147483647 := zRnA hr 1
  have r2 : (0 : Int) ≤ ρ 2 ∧ ρ 2 ≤ 0 := zRnA hr 2
  have r6 : (2 : Int) ≤ ρ 6 ∧ ρ 6 ≤ 2 := zRnA hr 6
  have r8 : ((-128) : Int) ≤ ρ 8 ∧ ρ 8 ≤ 127 := zRnA hr 8
  have f0 : (0 : Int) ≤ -ρ 7 + ρ 0 := zAllA hf 0
  have f1 : (0 : Int) ≤ ρ 7 + -ρ 0 := zAllA hf 1
  obtain ⟨w_0, w_1, w_2⟩ : (¬ (ρ 2 ≠ 0)) ∧ (¬ (ρ 6 ≠ 2)) ∧ (¬ (ρ 7 ≠ ρ 0)) := ⟨by omega, by omega, by omega⟩
  have m0 : γ 0 15 0 37 = ρ 5 := zAllA hm 0
  have m1 : γ 0 15 0 38 = ρ 6 := zAllA hm 1
  have m2 : γ 0 59 0 (ρ 5) = ρ 7 := zAllA hm 2
  have m3 : γ 0 59 0 (ρ 5 + 1) = ρ 8 := zAllA hm 3
  have l0 : ρ 1 ≠ 0 := zAllA hl 0
  have l1 : ρ 8 ≠ ρ 1 := zAllA hl 1
  obtain ⟨wl_0, wl_1⟩ : (ρ 1 ≠ 0) ∧ (ρ 8 ≠ ρ 1) := ⟨by omega, by omega⟩
  show sn13 [ρ 0, ρ 1, ρ 2, ρ 3, ρ 4, ρ 5, ρ 6] (γ 0) 0 0 (γ 0)
  refine Eq.symm ?_
  show fn13 [ρ 0, ρ 1, ρ 2, ρ 3, ρ 4] (γ 0) = _
  unfold fn13
  refine zLV (ρ 0) rfl (zLV (ρ 1) rfl (zLV (ρ 2) rfl (zLV (ρ 3) rfl (zLV (ρ 4) rfl (zLE m0 (zLE m1 (zIP wl_0 ?_)))))))
  refine zIN w_0 (zIN w_1 (zLE m2 (zIN w_2 (zLE m3 (zIP wl_1 ?_)))))
  rfl
theorem vn13_21 {S : Nat → zSpc}  {a : List Int} {g : rHp} : ∀ (ρ : Nat → Int) (γ : Nat → rHp), zO 7 S a g q13_21 ρ γ → zGl (fun _ _ _ => True) (sn13 a g) q13_21 ρ γ := by
  intro ρ γ h
  obtain ⟨ha, hg, hr, hf, hm, hc, hl⟩ := h
  have ha : a = [ρ 0, ρ 1, ρ 2, ρ 3, ρ 4, ρ 5, ρ 6] := ha
  subst ha
  subst hg
  have r1 : ((-2147483648) : Int) ≤ ρ 1 ∧ ρ 1 ≤ 2147483647 := zRnA hr 1
  have r2 : (0 : Int) ≤ ρ 2 ∧ ρ 2 ≤ 0 := zRnA hr 2
  have r6 : (2 : Int) ≤ ρ 6 ∧ ρ 6 ≤ 2 := zRnA hr 6
  have r8 : ((-128) : Int) ≤ ρ 8 ∧ ρ 8 ≤ 127 := zRnA hr 8
  have f0 : (0 : Int) ≤ -ρ 8 + ρ 1 := zAllA hf 0
  have f1 : (0 : Int) ≤ ρ 8 + -ρ 1 := zAllA hf 1
  have f2 : (0 : Int) ≤ -ρ 7 + ρ 0 := zAllA hf 2
  have f3 : (0 : Int) ≤ ρ 7 + -ρ 0 := zAllA hf 3
  obtain ⟨w_0, w_1, w_2, w_3⟩ : (¬ (ρ 2 ≠ 0)) ∧ (¬ (ρ 6 ≠ 2)) ∧ (¬ (ρ 7 ≠ ρ 0)) ∧ (¬ (ρ 8 ≠ ρ 1)) := ⟨by omega, by omega, by omega, by omega⟩
  have m0 : γ 0 15 0 37 = ρ 5 := zAllA hm 0
  have m1 : γ 0 15 0 38 = ρ 6 := zAllA hm 1
  have m2 : γ 0 59 0 (ρ 5) = ρ 7 := zAllA hm 2
  have m3 : γ 0 59 0 (ρ 5 + 1) = ρ 8 := zAllA hm 3
  have l0 : ρ 1 ≠ 0 := zAllA hl 0
  have wl_0 : ρ 1 ≠ 0 := by omega
  show sn13 [ρ 0, ρ 1, ρ 2, ρ 3, ρ 4, ρ 5, ρ 6] (γ 0) 0 1 (γ 0)
  refine Eq.symm ?_
  show fn13 [ρ 0, ρ 1, ρ 2, ρ 3, ρ 4] (γ 0) = _
  unfold fn13
  refine zLV (ρ 0) rfl (zLV (ρ 1) rfl (zLV (ρ 2) rfl (zLV (ρ 3) rfl (zLV (ρ 4) rfl (zLE m0 (zLE m1 (zIP wl_0 ?_)))))))
  refine zIN w_0 (zIN w_1 (zLE m2 (zIN w_2 (zLE m3 (zIN w_3 ?_)))))
  rfl
theorem vn13_22 {S : Nat → zSpc}  {a : List Int} {g : rHp} : ∀ (ρ : Nat → Int) (γ : Nat → rHp), zO 7 S a g q13_22 ρ γ → zGl (fun _ _ _ => True) (sn13 a g) q13_22 ρ γ := by
  intro ρ γ h
  obtain ⟨ha, hg, hr, hf, hm, hc, hl⟩ := h
  have ha : a = [ρ 0, ρ 1, ρ 2, ρ 3, ρ 4, ρ 5, ρ 6] := ha
  subst ha
  subst hg
  have r1 : (0 : Int) ≤ ρ 1 ∧ ρ 1 ≤ 0 := zRnA hr 1
  have r5 : (0 : Int) ≤ ρ 5 ∧ ρ 5 ≤ 2000 := zRnA hr 5
  have r6 : (0 : Int) ≤ ρ 6 ∧ ρ 6 ≤ 2000 := zRnA hr 6
  have f0 : (0 : Int) ≤ -ρ 6 + -ρ 5 + 2000 := zAllA hf 0
  have w_0 : ¬ (ρ 1 ≠ 0) := by omega
  have m0 : γ 0 15 0 37 = ρ 5 := zAllA hm 0
  have m1 : γ 0 15 0 38 = ρ 6 := zAllA hm 1
  have l0 : ρ 6 ≠ 1 := zAllA hl 0
  have wl_0 : ρ 6 ≠ 1 := by omega
  show sn13 [ρ 0, ρ 1, ρ 2, ρ 3, ρ 4, ρ 5, ρ 6] (γ 0) 0 0 (γ 0)
  refine Eq.symm ?_
  show fn13 [ρ 0, ρ 1, ρ 2, ρ 3, ρ 4] (γ 0) = _
  unfold fn13
  refine zLV (ρ 0) rfl (zLV (ρ 1) rfl (zLV (ρ 2) rfl (zLV (ρ 3) rfl (zLV (ρ 4) rfl (zLE m0 (zLE m1 (zIN w_0 ?_)))))))
  refine zIP wl_0 ?_
  rfl
theorem vn13_23 {S : Nat → zSpc}  {a : List Int} {g : rHp} : ∀ (ρ : Nat → Int) (γ : Nat → rHp), zO 7 S a g q13_23 ρ γ → zGl (fun _ _ _ => True) (sn13 a g) q13_23 ρ γ := by
  intro ρ γ h
  obtain ⟨ha, hg, hr, hf, hm, hc, hl⟩ := h
  have ha : a = [ρ 0, ρ 1, ρ 2, ρ 3, ρ 4, ρ 5, ρ 6] := ha
  subst ha
  subst hg
  have r0 : ((-2147483648) : Int) ≤ ρ 0 ∧ ρ 0 ≤ 2147483647 := zRnA hr 0
  have r1 : (0 : Int) ≤ ρ 1 ∧ ρ 1 ≤ 0 := zRnA hr 1
  have r6 : (1 : Int) ≤ ρ 6 ∧ ρ 6 ≤ 1 := zRnA hr 6
  have r7 : ((-128) : Int) ≤ ρ 7 ∧ ρ 7 ≤ 127 := zRnA hr 7
  obtain ⟨w_0, w_1⟩ : (¬ (ρ 1 ≠ 0)) ∧ (¬ (ρ 6 ≠ 1)) := ⟨by omega, by omega⟩
  have m0 : γ 0 15 0 37 = ρ 5 := zAllA hm 0
  have m1 : γ 0 15 0 38 = ρ 6 := zAllA hm 1
  have m2 : γ 0 59 0 (ρ 5) = ρ 7 := zAllA hm 2
  have l0 : ρ 7 ≠ ρ 0 := zAllA hl 0
  have wl_0 : ρ 7 ≠ ρ 0 := by omega
  show sn13 [ρ 0, ρ 1, ρ 2, ρ 3, ρ 4, ρ 5, ρ 6] (γ 0) 0 0 (γ 0)
  refine Eq.symm ?_
  show fn13 [ρ 0, ρ 1, ρ 2, ρ 3, ρ 4] (γ 0) = _
  unfold fn13
  refine zLV (ρ 0) rfl (zLV (ρ 1) rfl (zLV (ρ 2) rfl (zLV (ρ 3) rfl (zLV (ρ 4) rfl (zLE m0 (zLE m1 (zIN w_0 ?_)))))))
  refine zIN w_1 (zLE m2 (zIP wl_0 ?_))
  rfl
theorem vn13_24 {S : Nat → zSpc}  {a : List Int} {g : rHp} : ∀ (ρ : Nat → Int) (γ : Nat → rHp), zO 7 S a g q13_24 ρ γ → zGl (fun _ _ _ => True) (sn13 a g) q13_24 ρ γ := by
  intro ρ γ h
  obtain ⟨ha, hg, hr, hf, hm, hc, hl⟩ := h
  have ha : a = [ρ 0, ρ 1, ρ 2, ρ 3, ρ 4, ρ 5, ρ 6] := ha
  subst ha
  subst hg
  have r1 : (0 : Int) ≤ ρ 1 ∧ ρ 1 ≤ 0 := zRnA hr 1
  have r6 : (1 : Int) ≤ ρ 6 ∧ ρ 6 ≤ 1 := zRnA hr 6
  have f0 : (0 : Int) ≤ -ρ 7 + ρ 0 := zAllA hf 0
  have f1 : (0 : Int) ≤ ρ 7 + -ρ 0 := zAllA hf 1
  obtain ⟨w_0, w_1, w_2⟩ : (¬ (ρ 1 ≠ 0)) ∧ (¬ (ρ 6 ≠ 1)) ∧ (¬ (ρ 7 ≠ ρ 0)) := ⟨by omega, by omega, by omega⟩
  have m0 : γ 0 15 0 37 = ρ 5 := zAllA hm 0
  have m1 : γ 0 15 0 38 = ρ 6 := zAllA hm 1
  have m2 : γ 0 59 0 (ρ 5) = ρ 7 := zAllA hm 2
  show sn13 [ρ 0, ρ 1, ρ 2, ρ 3, ρ 4, ρ 5, ρ 6] (γ 0) 0 1 (γ 0)
  refine Eq.symm ?_
  show fn13 [ρ 0, ρ 1, ρ 2, ρ 3, ρ 4] (γ 0) = _
  unfold fn13
  refine zLV (ρ 0) rfl (zLV (ρ 1) rfl (zLV (ρ 2) rfl (zLV (ρ 3) rfl (zLV (ρ 4) rfl (zLE m0 (zLE m1 (zIN w_0 ?_)))))))
  refine zIN w_1 (zLE m2 (zIN w_2 ?_))
  rfl
theorem yn13 {S : Nat → zSpc}  : ∀ x g o v gz, zSem uW uT w13_.2.2.2.1 w13_.2.2.1.1.length S q13 (fun i => q13a.getD i []) (zNA a13_) x g o v gz → sn13 x g o v gz := by
  intro a g o v gz h
  exact zSem_all (l0 := q13) (las := q13a) (S := S) (J := (fun _ _ _ => True)) (P := sn13 a g) (fun _ => (show zAll _ [q13_0, q13_1, q13_2, q13_3, q13_4, q13_5, q13_6, q13_7, q13_8, q13_9, q13_10, q13_11, q13_12, q13_13, q13_14, q13_15, q13_16, q13_17, q13_18, q13_19, q13_20, q13_21, q13_22, q13_23, q13_24] from (zAll_c (vn13_0 ) (zAll_c (vn13_1 ) (zAll_c (vn13_2 ) (zAll_c (vn13_3 ) (zAll_c (vn13_4 ) (zAll_c (vn13_5 ) (zAll_c (vn13_6 ) (zAll_c (vn13_7 ) (zAll_c (vn13_8 ) (zAll_c (vn13_9 ) (zAll_c (vn13_10 ) (zAll_c (vn13_11 ) (zAll_c (vn13_12 ) (zAll_c (vn13_13 ) (zAll_c (vn13_14 ) (zAll_c (vn13_15 ) (zAll_c (vn13_16 ) (zAll_c (vn13_17 ) (zAll_c (vn13_18 ) (zAll_c (vn13_19 ) (zAll_c (vn13_20 ) (zAll_c (vn13_21 ) (zAll_c (vn13_22 ) (zAll_c (vn13_23 ) (zAll_c (vn13_24 ) zAll_n))))))))))))))))))))))))))) (fun _ => (show zAllI _ 0 [] from trivial)) h
theorem vn14_0 {S : Nat → zSpc} (hS6 : zIm S 6 sn6) (hS8 : zIm S 8 sn8) (hS11 : zIm S 11 sn11) {a : List Int} {g : rHp} : ∀ (ρ : Nat → Int) (γ : Nat → rHp), zO 4 S a g q14_0 ρ γ → zGl (fun i vs g1 => jn14 a g i vs g1) (sn14 a g) q14_0 ρ γ := by
  intro ρ γ h
  obtain ⟨ha, hg, hr, hf, hm, hc, hl⟩ := h
  have ha : a = [ρ 0, ρ 1, ρ 2, ρ 3] := ha
  subst ha
  subst hg
  have r4 : ((-128) : Int) ≤ ρ 4 ∧ ρ 4 ≤ 127 := zRnA hr 4
  have m0 : γ 0 15 0 35 = ρ 0 := zAllA hm 0
  have m1 : γ 0 15 0 34 = ρ 1 := zAllA hm 1
  have l0 : sn6 [ρ 0, ρ 1] (γ 0) 0 (ρ 4) (γ 1) := hS6 _ _ _ _ _ (zAllA hl 0)
  have l1 : ρ 4 ≠ 45 := zAllA hl 1
  have l2 : sn6 [ρ 0, ρ 1] (γ 1) 0 (ρ 5) (γ 2) := hS6 _ _ _ _ _ (zAllA hl 2)
  have l3 : sn11 [ρ 5] (γ 2) 0 0 (γ 3) := hS11 _ _ _ _ _ (zAllA hl 3)
  have l4 : sn8 [ρ 0, ρ 1, ρ 2] (γ 3) 0 0 (γ 4) := hS8 _ _ _ _ _ (zAllA hl 4)
  have wl_0 : ρ 4 ≠ 45 := by omega
  show sn14 [ρ 0, ρ 1, ρ 2, ρ 3] (γ 0) 0 0 (γ 4)
  have hD : dn14 [] (γ 0) = .inr (0, 0, γ 4) := by
    unfold dn14
    refine zLE m0 (zLE m1 (zLE (show fn6 [ρ 0] (γ 0) = (0, ρ 4, γ 1) from l0.symm) (zLV (γ 1) rfl (zLV (ρ 4) rfl (zIP wl_0 (zLE (show fn6 [ρ 0] (γ 1) = (0, ρ 5, γ 2) from l2.symm) (zLV (γ 2) rfl ?_)))))))
    refine zLV (ρ 5) rfl (zLE (show fn11 [ρ 5] (γ 2) = (0, 0, γ 3) from l3.symm) (zLV (γ 3) rfl (zIN zQ0_ (zLE (show fn8 [ρ 0] (γ 3) = (0, 0, γ 4) from l4.symm) (zLV (γ 4) rfl ?_)))))
    rfl
  exact zGoo_end hD
theorem vn14_1 {S : Nat → zSpc} (hS6 : zIm S 6 sn6) (hS8 : zIm S 8 sn8) (hS11 : zIm S 11 sn11) {a : List Int} {g : rHp} : ∀ (ρ : Nat → Int) (γ : Nat → rHp), zO 4 S a g q14_1 ρ γ → zGl (fun i vs g1 => jn14 a g i vs g1) (sn14 a g) q14_1 ρ γ := by
  intro ρ γ h
  obtain ⟨ha, hg, hr, hf, hm, hc, hl⟩ := h
  have ha : a = [ρ 0, ρ 1, ρ 2, ρ 3] := ha
  subst ha
  subst hg
  have r4 : ((-128) : Int) ≤ ρ 4 ∧ ρ 4 ≤ 127 := zRnA hr 4
  have f0 : (0 : Int) ≤ ρ 1 + -ρ 0 + (-2) := zAllA hf 0
  have w_0 : 0 ≤ ρ 1 + -ρ 0 + (-2) := by omega
  have m0 : γ 0 15 0 35 = ρ 0 := zAllA hm 0
  have m1 : γ 0 15 0 34 = ρ 1 := zAllA hm 1
  have c7 : γ 7 = rUp (γ 6) 15 0 35 (ρ 0 + 1) := And.right (zChA hc 2)
  have c8 : γ 8 = rUp (γ 7) 15 0 39 (ρ 6 + (-48)) := And.right (zChA hc 1)
  have c9 : γ 9 = rUp (γ 8) 15 0 40 0 := And.right (zChA hc 0)
  have l0 : sn6 [ρ 0, ρ 1] (γ 0) 0 (ρ 4) (γ 1) := hS6 _ _ _ _ _ (zAllA hl 0)
  have l1 : ρ 4 ≠ 45 := zAllA hl 1
  have l2 : sn6 [ρ 0, ρ 1] (γ 1) 0 (ρ 5) (γ 2) := hS6 _ _ _ _ _ (zAllA hl 2)
  have l3 : sn11 [ρ 5] (γ 2) 0 1 (γ 3) := hS11 _ _ _ _ _ (zAllA hl 3)
  have l4 : sn6 [ρ 0, ρ 1] (γ 3) 0 (ρ 6) (γ 4) := hS6 _ _ _ _ _ (zAllA hl 4)
  have l5 : sn6 [ρ 0 + 1, ρ 1] (γ 4) 0 (ρ 7) (γ 5) := hS6 _ _ _ _ _ (zAllA hl 5)
  have l6 : sn11 [ρ 7] (γ 5) 0 0 (γ 6) := hS11 _ _ _ _ _ (zAllA hl 6)
  have wl_0 : ρ 4 ≠ 45 := by omega
  show sn14 [ρ 0, ρ 1, ρ 2, ρ 3] (γ 0) 0 1 (γ 9)
  have hD : dn14 [] (γ 0) = .inr (0, 1, γ 9) := by
    unfold dn14
    refine zLE m0 (zLE m1 (zLE (show fn6 [ρ 0] (γ 0) = (0, ρ 4, γ 1) from l0.symm) (zLV (γ 1) rfl (zLV (ρ 4) rfl (zIP wl_0 (zLE (show fn6 [ρ 0] (γ 1) = (0, ρ 5, γ 2) from l2.symm) (zLV (γ 2) rfl ?_)))))))
    refine zLV (ρ 5) rfl (zLE (show fn11 [ρ 5] (γ 2) = (0, 1, γ 3) from l3.symm) (zLV (γ 3) rfl (zIP zQ1_ (zLE (show fn6 [ρ 0] (γ 3) = (0, ρ 6, γ 4) from l4.symm) (zLV (γ 4) rfl (zLV (ρ 6) rfl (zLE (show fn6 [ρ 0 + 1] (γ 4) = (0, ρ 7, γ 5) from l5.symm) ?_)))))))
    refine zLV (γ 5) rfl (zIP w_0 (zLV (ρ 7) rfl (zLE (show fn11 [ρ 7] (γ 5) = (0, 0, γ 6) from l6.symm) (zLV (γ 6) rfl (zIN zQ0_ (zLE c7.symm (zLE c8.symm ?_)))))))
    refine zLE c9.symm ?_
    rfl
  exact zGoo_end hD
theorem vn14_2 {S : Nat → zSpc} (hS6 : zIm S 6 sn6) (hS8 : zIm S 8 sn8) (hS11 : zIm S 11 sn11) {a : List Int} {g : rHp} : ∀ (ρ : Nat → Int) (γ : Nat → rHp), zO 4 S a g q14_2 ρ γ → zGl (fun i vs g1 => jn14 a g i vs g1) (sn14 a g) q14_2 ρ γ := by
  intro ρ γ h
  obtain ⟨ha, hg, hr, hf, hm, hc, hl⟩ := h
  have ha : a = [ρ 0, ρ 1, ρ 2, ρ 3] := ha
  subst ha
  subst hg
  have r4 : ((-128) : Int) ≤ ρ 4 ∧ ρ 4 ≤ 127 := zRnA hr 4
  have f0 : (0 : Int) ≤ ρ 1 + -ρ 0 + (-3) := zAllA hf 0
  obtain ⟨w_0, w_1⟩ : (0 ≤ ρ 1 + -ρ 0 + (-2)) ∧ (0 ≤ ρ 1 + -ρ 0 + (-3)) := ⟨by omega, by omega⟩
  have m0 : γ 0 15 0 35 = ρ 0 := zAllA hm 0
  have m1 : γ 0 15 0 34 = ρ 1 := zAllA hm 1
  have c10 : γ 10 = rUp (γ 9) 15 0 35 (ρ 0 + 2) := And.right (zChA hc 2)
  have c11 : γ 11 = rUp (γ 10) 15 0 39 (ρ 8 + 10 * ρ 6 + (-528)) := And.right (zChA hc 1)
  have c12 : γ 12 = rUp (γ 11) 15 0 40 0 := And.right (zChA hc 0)
  have l0 : sn6 [ρ 0, ρ 1] (γ 0) 0 (ρ 4) (γ 1) := hS6 _ _ _ _ _ (zAllA hl 0)
  have l1 : ρ 4 ≠ 45 := zAllA hl 1
  have l2 : sn6 [ρ 0, ρ 1] (γ 1) 0 (ρ 5) (γ 2) := hS6 _ _ _ _ _ (zAllA hl 2)
  have l3 : sn11 [ρ 5] (γ 2) 0 1 (γ 3) := hS11 _ _ _ _ _ (zAllA hl 3)
  have l4 : sn6 [ρ 0, ρ 1] (γ 3) 0 (ρ 6) (γ 4) := hS6 _ _ _ _ _ (zAllA hl 4)
  have l5 : sn6 [ρ 0 + 1, ρ 1] (γ 4) 0 (ρ 7) (γ 5) := hS6 _ _ _ _ _ (zAllA hl 5)
  have l6 : sn11 [ρ 7] (γ 5) 0 1 (γ 6) := hS11 _ _ _ _ _ (zAllA hl 6)
  have l7 : sn6 [ρ 0 + 1, ρ 1] (γ 6) 0 (ρ 8) (γ 7) := hS6 _ _ _ _ _ (zAllA hl 7)
  have l8 : sn6 [ρ 0 + 2, ρ 1] (γ 7) 0 (ρ 9) (γ 8) := hS6 _ _ _ _ _ (zAllA hl 8)
  have l9 : sn11 [ρ 9] (γ 8) 0 0 (γ 9) := hS11 _ _ _ _ _ (zAllA hl 9)
  have wl_0 : ρ 4 ≠ 45 := by omega
  show sn14 [ρ 0, ρ 1, ρ 2, ρ 3] (γ 0) 0 1 (γ 12)
  have hD : dn14 [] (γ 0) = .inr (0, 1, γ 12) := by
    unfold dn14
    refine zLE m0 (zLE m1 (zLE (show fn6 [ρ 0] (γ 0) = (0, ρ 4, γ 1) from l0.symm) (zLV (γ 1) rfl (zLV (ρ 4) rfl (zIP wl_0 (zLE (show fn6 [ρ 0] (γ 1) = (0, ρ 5, γ 2) from l2.symm) (zLV (γ 2) rfl ?_)))))))
    refine zLV (ρ 5) rfl (zLE (show fn11 [ρ 5] (γ 2) = (0, 1, γ 3) from l3.symm) (zLV (γ 3) rfl (zIP zQ1_ (zLE (show fn6 [ρ 0] (γ 3) = (0, ρ 6, γ 4) from l4.symm) (zLV (γ 4) rfl (zLV (ρ 6) rfl (zLE (show fn6 [ρ 0 + 1] (γ 4) = (0, ρ 7, γ 5) from l5.symm) ?_)))))))
    refine zLV (γ 5) rfl (zIP w_0 (zLV (ρ 7) rfl (zLE (show fn11 [ρ 7] (γ 5) = (0, 1, γ 6) from l6.symm) (zLV (γ 6) rfl (zIP zQ1_ (zLE (show fn6 [ρ 0 + 1] (γ 6) = (0, ρ 8, γ 7) from l7.symm) (zLV (γ 7) rfl ?_)))))))
    refine zLV (ρ 8) rfl (zLE (show fn6 [ρ 0 + 2] (γ 7) = (0, ρ 9, γ 8) from l8.symm) (zLV (γ 8) rfl (zIP w_1 (zLV (ρ 9) rfl (zLE (show fn11 [ρ 9] (γ 8) = (0, 0, γ 9) from l9.symm) (zLV (γ 9) rfl (zIN zQ0_ ?_)))))))
    refine zLE c10.symm (zLE c11.symm (zLE c12.symm ?_))
    rfl
  exact zGoo_end hD
theorem vn14_3 {S : Nat → zSpc} (hS6 : zIm S 6 sn6) (hS8 : zIm S 8 sn8) (hS11 : zIm S 11 sn11) {a : List Int} {g : rHp} : ∀ (ρ : Nat → Int) (γ : Nat → rHp), zO 4 S a g q14_3 ρ γ → zGl (fun i vs g1 => jn14 a g i vs g1) (sn14 a g) q14_3 ρ γ := by
  intro ρ γ h
  obtain ⟨ha, hg, hr, hf, hm, hc, hl⟩ := h
  have ha : a = [ρ 0, ρ 1, ρ 2, ρ 3] := ha
  subst ha
  subst hg
  have r4 : ((-128) : Int) ≤ ρ 4 ∧ ρ 4 ≤ 127 := zRnA hr 4
  have f0 : (0 : Int) ≤ ρ 1 + -ρ 0 + (-4) := zAllA hf 0
  obtain ⟨w_0, w_1, w_2⟩ : (0 ≤ ρ 1 + -ρ 0 + (-2)) ∧ (0 ≤ ρ 1 + -ρ 0 + (-3)) ∧ (0 ≤ ρ 1 + -ρ 0 + (-4)) := ⟨by omega, by omega, by omega⟩
  have m0 : γ 0 15 0 35 = ρ 0 := zAllA hm 0
  have m1 : γ 0 15 0 34 = ρ 1 := zAllA hm 1
  have c13 : γ 13 = rUp (γ 12) 15 0 35 (ρ 0 + 3) := And.right (zChA hc 2)
  have c14 : γ 14 = rUp (γ 13) 15 0 39 (ρ 10 + (10 * ρ 8 + 100 * ρ 6) + (-5328)) := And.right (zChA hc 1)
  have c15 : γ 15 = rUp (γ 14) 15 0 40 0 := And.right (zChA hc 0)
  have l0 : sn6 [ρ 0, ρ 1] (γ 0) 0 (ρ 4) (γ 1) := hS6 _ _ _ _ _ (zAllA hl 0)
  have l1 : ρ 4 ≠ 45 := zAllA hl 1
  have l2 : sn6 [ρ 0, ρ 1] (γ 1) 0 (ρ 5) (γ 2) := hS6 _ _ _ _ _ (zAllA hl 2)
  have l3 : sn11 [ρ 5] (γ 2) 0 1 (γ 3) := hS11 _ _ _ _ _ (zAllA hl 3)
  have l4 : sn6 [ρ 0, ρ 1] (γ 3) 0 (ρ 6) (γ 4) := hS6 _ _ _ _ _ (zAllA hl 4)
  have l5 : sn6 [ρ 0 + 1, ρ 1] (γ 4) 0 (ρ 7) (γ 5) := hS6 _ _ _ _ _ (zAllA hl 5)
  have l6 : sn11 [ρ 7] (γ 5) 0 1 (γ 6) := hS11 _ _ _ _ _ (zAllA hl 6)
  have l7 : sn6 [ρ 0 + 1, ρ 1] (γ 6) 0 (ρ 8) (γ 7) := hS6 _ _ _ _ _ (zAllA hl 7)
  have l8 : sn6 [ρ 0 + 2, ρ 1] (γ 7) 0 (ρ 9) (γ 8) := hS6 _ _ _ _ _ (zAllA hl 8)
  have l9 : sn11 [ρ 9] (γ 8) 0 1 (γ 9) := hS11 _ _ _ _ _ (zAllA hl 9)
  have l10 : sn6 [ρ 0 + 2, ρ 1] (γ 9) 0 (ρ 10) (γ 10) := hS6 _ _ _ _ _ (zAllA hl 10)
  have l11 : sn6 [ρ 0 + 3, ρ 1] (γ 10) 0 (ρ 11) (γ 11) := hS6 _ _ _ _ _ (zAllA hl 11)
  have l12 : sn11 [ρ 11] (γ 11) 0 0 (γ 12) := hS11 _ _ _ _ _ (zAllA hl 12)
  have wl_0 : ρ 4 ≠ 45 := by omega
  show sn14 [ρ 0, ρ 1, ρ 2, ρ 3] (γ 0) 0 1 (γ 15)
  have hD : dn14 [] (γ 0) = .inr (0, 1, γ 15) := by
    unfold dn14
    refine zLE m0 (zLE m1 (zLE (show fn6 [ρ 0] (γ 0) = (0, ρ 4, γ 1) from l0.symm) (zLV (γ 1) rfl (zLV (ρ 4) rfl (zIP wl_0 (zLE (show fn6 [ρ 0] (γ 1) = (0, ρ 5, γ 2) from l2.symm) (zLV (γ 2) rfl ?_)))))))
    refine zLV (ρ 5) rfl (zLE (show fn11 [ρ 5] (γ 2) = (0, 1, γ 3) from l3.symm) (zLV (γ 3) rfl (zIP zQ1_ (zLE (show fn6 [ρ 0] (γ 3) = (0, ρ 6, γ 4) from l4.symm) (zLV (γ 4) rfl (zLV (ρ 6) rfl (zLE (show fn6 [ρ 0 + 1] (γ 4) = (0, ρ 7, γ 5) from l5.symm) ?_)))))))
    refine zLV (γ 5) rfl (zIP w_0 (zLV (ρ 7) rfl (zLE (show fn11 [ρ 7] (γ 5) = (0, 1, γ 6) from l6.symm) (zLV (γ 6) rfl (zIP zQ1_ (zLE (show fn6 [ρ 0 + 1] (γ 6) = (0, ρ 8, γ 7) from l7.symm) (zLV (γ 7) rfl ?_)))))))
    refine zLV (ρ 8) rfl (zLE (show fn6 [ρ 0 + 2] (γ 7) = (0, ρ 9, γ 8) from l8.symm) (zLV (γ 8) rfl (zIP w_1 (zLV (ρ 9) rfl (zLE (show fn11 [ρ 9] (γ 8) = (0, 1, γ 9) from l9.symm) (zLV (γ 9) rfl (zIP zQ1_ ?_)))))))
    refine zLE (show fn6 [ρ 0 + 2] (γ 9) = (0, ρ 10, γ 10) from l10.symm) (zLV (γ 10) rfl (zLV (ρ 10) rfl (zLE (show fn6 [ρ 0 + 3] (γ 10) = (0, ρ 11, γ 11) from l11.symm) (zLV (γ 11) rfl (zIP w_2 (zLV (ρ 11) rfl (zLE (show fn11 [ρ 11] (γ 11) = (0, 0, γ 12) from l12.symm) ?_)))))))
    refine zLV (γ 12) rfl (zIN zQ0_ (zLE c13.symm (zLE c14.symm (zLE c15.symm ?_))))
    rfl
  exact zGoo_end hD
theorem vn14_4 {S : Nat → zSpc} (hS6 : zIm S 6 sn6) (hS8 : zIm S 8 sn8) (hS11 : zIm S 11 sn11) {a : List Int} {g : rHp} : ∀ (ρ : Nat → Int) (γ : Nat → rHp), zO 4 S a g q14_4 ρ γ → zGl (fun i vs g1 => jn14 a g i vs g1) (sn14 a g) q14_4 ρ γ := by
  intro ρ γ h
  obtain ⟨ha, hg, hr, hf, hm, hc, hl⟩ := h
  have ha : a = [ρ 0, ρ 1, ρ 2, ρ 3] := ha
  subst ha
  subst hg
  have r4 : ((-128) : Int) ≤ ρ 4 ∧ ρ 4 ≤ 127 := zRnA hr 4
  have f0 : (0 : Int) ≤ ρ 1 + -ρ 0 + (-5) := zAllA hf 0
  obtain ⟨w_0, w_1, w_2, w_3⟩ : (0 ≤ ρ 1 + -ρ 0 + (-2)) ∧ (0 ≤ ρ 1 + -ρ 0 + (-3)) ∧ (0 ≤ ρ 1 + -ρ 0 + (-4)) ∧ (0 ≤ ρ 1 + -ρ 0 + (-5)) := ⟨by omega, by omega, by omega, by omega⟩
  have m0 : γ 0 15 0 35 = ρ 0 := zAllA hm 0
  have m1 : γ 0 15 0 34 = ρ 1 := zAllA hm 1
  have c16 : γ 16 = rUp (γ 15) 15 0 35 (ρ 0 + 4) := And.right (zChA hc 2)
  have c17 : γ 17 = rUp (γ 16) 15 0 39 (ρ 12 + (10 * ρ 10 + (100 * ρ 8 + 1000 * ρ 6)) + (-53328)) := And.right (zChA hc 1)
  have c18 : γ 18 = rUp (γ 17) 15 0 40 0 := And.right (zChA hc 0)
  have l0 : sn6 [ρ 0, ρ 1] (γ 0) 0 (ρ 4) (γ 1) := hS6 _ _ _ _ _ (zAllA hl 0)
  have l1 : ρ 4 ≠ 45 := zAllA hl 1
  have l2 : sn6 [ρ 0, ρ 1] (γ 1) 0 (ρ 5) (γ 2) := hS6 _ _ _ _ _ (zAllA hl 2)
  have l3 : sn11 [ρ 5] (γ 2) 0 1 (γ 3) := hS11 _ _ _ _ _ (zAllA hl 3)
  have l4 : sn6 [ρ 0, ρ 1] (γ 3) 0 (ρ 6) (γ 4) := hS6 _ _ _ _ _ (zAllA hl 4)
  have l5 : sn6 [ρ 0 + 1, ρ 1] (γ 4) 0 (ρ 7) (γ 5) := hS6 _ _ _ _ _ (zAllA hl 5)
  have l6 : sn11 [ρ 7] (γ 5) 0 1 (γ 6) := hS11 _ _ _ _ _ (zAllA hl 6)
  have l7 : sn6 [ρ 0 + 1, ρ 1] (γ 6) 0 (ρ 8) (γ 7) := hS6 _ _ _ _ _ (zAllA hl 7)
  have l8 : sn6 [ρ 0 + 2, ρ 1] (γ 7) 0 (ρ 9) (γ 8) := hS6 _ _ _ _ _ (zAllA hl 8)
  have l9 : sn11 [ρ 9] (γ 8) 0 1 (γ 9) := hS11 _ _ _ _ _ (zAllA hl 9)
  have l10 : sn6 [ρ 0 + 2, ρ 1] (γ 9) 0 (ρ 10) (γ 10) := hS6 _ _ _ _ _ (zAllA hl 10)
  have l11 : sn6 [ρ 0 + 3, ρ 1] (γ 10) 0 (ρ 11) (γ 11) := hS6 _ _ _ _ _ (zAllA hl 11)
  have l12 : sn11 [ρ 11] (γ 11) 0 1 (γ 12) := hS11 _ _ _ _ _ (zAllA hl 12)
  have l13 : sn6 [ρ 0 + 3, ρ 1] (γ 12) 0 (ρ 12) (γ 13) := hS6 _ _ _ _ _ (zAllA hl 13)
  have l14 : sn6 [ρ 0 + 4, ρ 1] (γ 13) 0 (ρ 13) (γ 14) := hS6 _ _ _ _ _ (zAllA hl 14)
  have l15 : sn11 [ρ 13] (γ 14) 0 0 (γ 15) := hS11 _ _ _ _ _ (zAllA hl 15)
  have wl_0 : ρ 4 ≠ 45 := by omega
  show sn14 [ρ 0, ρ 1, ρ 2, ρ 3] (γ 0) 0 1 (γ 18)
  have hD : dn14 [] (γ 0) = .inr (0, 1, γ 18) := by
    unfold dn14
    refine zLE m0 (zLE m1 (zLE (show fn6 [ρ 0] (γ 0) = (0, ρ 4, γ 1) from l0.symm) (zLV (γ 1) rfl (zLV (ρ 4) rfl (zIP wl_0 (zLE (show fn6 [ρ 0] (γ 1) = (0, ρ 5, γ 2) from l2.symm) (zLV (γ 2) rfl ?_)))))))
    refine zLV (ρ 5) rfl (zLE (show fn11 [ρ 5] (γ 2) = (0, 1, γ 3) from l3.symm) (zLV (γ 3) rfl (zIP zQ1_ (zLE (show fn6 [ρ 0] (γ 3) = (0, ρ 6, γ 4) from l4.symm) (zLV (γ 4) rfl (zLV (ρ 6) rfl (zLE (show fn6 [ρ 0 + 1] (γ 4) = (0, ρ 7, γ 5) from l5.symm) ?_)))))))
    refine zLV (γ 5) rfl (zIP w_0 (zLV (ρ 7) rfl (zLE (show fn11 [ρ 7] (γ 5) = (0, 1, γ 6) from l6.symm) (zLV (γ 6) rfl (zIP zQ1_ (zLE (show fn6 [ρ 0 + 1] (γ 6) = (0, ρ 8, γ 7) from l7.symm) (zLV (γ 7) rfl ?_)))))))
    refine zLV (ρ 8) rfl (zLE (show fn6 [ρ 0 + 2] (γ 7) = (0, ρ 9, γ 8) from l8.symm) (zLV (γ 8) rfl (zIP w_1 (zLV (ρ 9) rfl (zLE (show fn11 [ρ 9] (γ 8) = (0, 1, γ 9) from l9.symm) (zLV (γ 9) rfl (zIP zQ1_ ?_)))))))
    refine zLE (show fn6 [ρ 0 + 2] (γ 9) = (0, ρ 10, γ 10) from l10.symm) (zLV (γ 10) rfl (zLV (ρ 10) rfl (zLE (show fn6 [ρ 0 + 3] (γ 10) = (0, ρ 11, γ 11) from l11.symm) (zLV (γ 11) rfl (zIP w_2 (zLV (ρ 11) rfl (zLE (show fn11 [ρ 11] (γ 11) = (0, 1, γ 12) from l12.symm) ?_)))))))
    refine zLV (γ 12) rfl (zIP zQ1_ (zLE (show fn6 [ρ 0 + 3] (γ 12) = (0, ρ 12, γ 13) from l13.symm) (zLV (γ 13) rfl (zLV (ρ 12) rfl (zLE (show fn6 [ρ 0 + 4] (γ 13) = (0, ρ 13, γ 14) from l14.symm) (zLV (γ 14) rfl (zIP w_3 ?_)))))))
    refine zLV (ρ 13) rfl (zLE (show fn11 [ρ 13] (γ 14) = (0, 0, γ 15) from l15.symm) (zLV (γ 15) rfl (zIN zQ0_ (zLE c16.symm (zLE c17.symm (zLE c18.symm ?_))))))
    rfl
  exact zGoo_end hD
theorem vn14_5 {S : Nat → zSpc} (hS6 : zIm S 6 sn6) (hS8 : zIm S 8 sn8) (hS11 : zIm S 11 sn11) {a : List Int} {g : rHp} : ∀ (ρ : Nat → Int) (γ : Nat → rHp), zO 4 S a g q14_5 ρ γ → zGl (fun i vs g1 => jn14 a g i vs g1) (sn14 a g) q14_5 ρ γ := by
  intro ρ γ h
  obtain ⟨ha, hg, hr, hf, hm, hc, hl⟩ := h
  have ha : a = [ρ 0, ρ 1, ρ 2, ρ 3] := ha
  subst ha
  subst hg
  have r4 : ((-128) : Int) ≤ ρ 4 ∧ ρ 4 ≤ 127 := zRnA hr 4
  have f0 : (0 : Int) ≤ ρ 1 + -ρ 0 + (-6) := zAllA hf 0
  obtain ⟨w_0, w_1, w_2, w_3, w_4⟩ : (0 ≤ ρ 1 + -ρ 0 + (-2)) ∧ (0 ≤ ρ 1 + -ρ 0 + (-3)) ∧ (0 ≤ ρ 1 + -ρ 0 + (-4)) ∧ (0 ≤ ρ 1 + -ρ 0 + (-5)) ∧ (0 ≤ ρ 1 + -ρ 0 + (-6)) := ⟨by omega, by omega, by omega, by omega, by omega⟩
  have m0 : γ 0 15 0 35 = ρ 0 := zAllA hm 0
  have m1 : γ 0 15 0 34 = ρ 1 := zAllA hm 1
  have c19 : γ 19 = rUp (γ 18) 15 0 35 (ρ 0 + 5) := And.right (zChA hc 2)
  have c20 : γ 20 = rUp (γ 19) 15 0 39 (ρ 14 + (10 * ρ 12 + (100 * ρ 10 + (1000 * ρ 8 + 10000 * ρ 6))) + (-533328)) := And.right (zChA hc 1)
  have c21 : γ 21 = rUp (γ 20) 15 0 40 0 := And.right (zChA hc 0)
  have l0 : sn6 [ρ 0, ρ 1] (γ 0) 0 (ρ 4) (γ 1) := hS6 _ _ _ _ _ (zAllA hl 0)
  have l1 : ρ 4 ≠ 45 := zAllA hl 1
  have l2 : sn6 [ρ 0, ρ 1] (γ 1) 0 (ρ 5) (γ 2) := hS6 _ _ _ _ _ (zAllA hl 2)
  have l3 : sn11 [ρ 5] (γ 2) 0 1 (γ 3) := hS11 _ _ _ _ _ (zAllA hl 3)
  have l4 : sn6 [ρ 0, ρ 1] (γ 3) 0 (ρ 6) (γ 4) := hS6 _ _ _ _ _ (zAllA hl 4)
  have l5 : sn6 [ρ 0 + 1, ρ 1] (γ 4) 0 (ρ 7) (γ 5) := hS6 _ _ _ _ _ (zAllA hl 5)
  have l6 : sn11 [ρ 7] (γ 5) 0 1 (γ 6) := hS11 _ _ _ _ _ (zAllA hl 6)
  have l7 : sn6 [ρ 0 + 1, ρ 1] (γ 6) 0 (ρ 8) (γ 7) := hS6 _ _ _ _ _ (zAllA hl 7)
  have l8 : sn6 [ρ 0 + 2, ρ 1] (γ 7) 0 (ρ 9) (γ 8) := hS6 _ _ _ _ _ (zAllA hl 8)
  have l9 : sn11 [ρ 9] (γ 8) 0 1 (γ 9) := hS11 _ _ _ _ _ (zAllA hl 9)
  have l10 : sn6 [ρ 0 + 2, ρ 1] (γ 9) 0 (ρ 10) (γ 10) := hS6 _ _ _ _ _ (zAllA hl 10)
  have l11 : sn6 [ρ 0 + 3, ρ 1] (γ 10) 0 (ρ 11) (γ 11) := hS6 _ _ _ _ _ (zAllA hl 11)
  have l12 : sn11 [ρ 11] (γ 11) 0 1 (γ 12) := hS11 _ _ _ _ _ (zAllA hl 12)
  have l13 : sn6 [ρ 0 + 3, ρ 1] (γ 12) 0 (ρ 12) (γ 13) := hS6 _ _ _ _ _ (zAllA hl 13)
  have l14 : sn6 [ρ 0 + 4, ρ 1] (γ 13) 0 (ρ 13) (γ 14) := hS6 _ _ _ _ _ (zAllA hl 14)
  have l15 : sn11 [ρ 13] (γ 14) 0 1 (γ 15) := hS11 _ _ _ _ _ (zAllA hl 15)
  have l16 : sn6 [ρ 0 + 4, ρ 1] (γ 15) 0 (ρ 14) (γ 16) := hS6 _ _ _ _ _ (zAllA hl 16)
  have l17 : sn6 [ρ 0 + 5, ρ 1] (γ 16) 0 (ρ 15) (γ 17) := hS6 _ _ _ _ _ (zAllA hl 17)
  have l18 : sn11 [ρ 15] (γ 17) 0 0 (γ 18) := hS11 _ _ _ _ _ (zAllA hl 18)
  have wl_0 : ρ 4 ≠ 45 := by omega
  show sn14 [ρ 0, ρ 1, ρ 2, ρ 3] (γ 0) 0 1 (γ 21)
  have hD : dn14 [] (γ 0) = .inr (0, 1, γ 21) := by
    unfold dn14
    refine zLE m0 (zLE m1 (zLE (show fn6 [ρ 0] (γ 0) = (0, ρ 4, γ 1) from l0.symm) (zLV (γ 1) rfl (zLV (ρ 4) rfl (zIP wl_0 (zLE (show fn6 [ρ 0] (γ 1) = (0, ρ 5, γ 2) from l2.symm) (zLV (γ 2) rfl ?_)))))))
    refine zLV (ρ 5) rfl (zLE (show fn11 [ρ 5] (γ 2) = (0, 1, γ 3) from l3.symm) (zLV (γ 3) rfl (zIP zQ1_ (zLE (show fn6 [ρ 0] (γ 3) = (0, ρ 6, γ 4) from l4.symm) (zLV (γ 4) rfl (zLV (ρ 6) rfl (zLE (show fn6 [ρ 0 + 1] (γ 4) = (0, ρ 7, γ 5) from l5.symm) ?_)))))))
    refine zLV (γ 5) rfl (zIP w_0 (zLV (ρ 7) rfl (zLE (show fn11 [ρ 7] (γ 5) = (0, 1, γ 6) from l6.symm) (zLV (γ 6) rfl (zIP zQ1_ (zLE (show fn6 [ρ 0 + 1] (γ 6) = (0, ρ 8, γ 7) from l7.symm) (zLV (γ 7) rfl ?_)))))))
    refine zLV (ρ 8) rfl (zLE (show fn6 [ρ 0 + 2] (γ 7) = (0, ρ 9, γ 8) from l8.symm) (zLV (γ 8) rfl (zIP w_1 (zLV (ρ 9) rfl (zLE (show fn11 [ρ 9] (γ 8) = (0, 1, γ 9) from l9.symm) (zLV (γ 9) rfl (zIP zQ1_ ?_)))))))
    refine zLE (show fn6 [ρ 0 + 2] (γ 9) = (0, ρ 10, γ 10) from l10.symm) (zLV (γ 10) rfl (zLV (ρ 10) rfl (zLE (show fn6 [ρ 0 + 3] (γ 10) = (0, ρ 11, γ 11) from l11.symm) (zLV (γ 11) rfl (zIP w_2 (zLV (ρ 11) rfl (zLE (show fn11 [ρ 11] (γ 11) = (0, 1, γ 12) from l12.symm) ?_)))))))
    refine zLV (γ 12) rfl (zIP zQ1_ (zLE (show fn6 [ρ 0 + 3] (γ 12) = (0, ρ 12, γ 13) from l13.symm) (zLV (γ 13) rfl (zLV (ρ 12) rfl (zLE (show fn6 [ρ 0 + 4] (γ 13) = (0, ρ 13, γ 14) from l14.symm) (zLV (γ 14) rfl (zIP w_3 ?_)))))))
    refine zLV (ρ 13) rfl (zLE (show fn11 [ρ 13] (γ 14) = (0, 1, γ 15) from l15.symm) (zLV (γ 15) rfl (zIP zQ1_ (zLE (show fn6 [ρ 0 + 4] (γ 15) = (0, ρ 14, γ 16) from l16.symm) (zLV (γ 16) rfl (zLV (ρ 14) rfl (zLE (show fn6 [ρ 0 + 5] (γ 16) = (0, ρ 15, γ 17) from l17.symm) ?_)))))))
    refine zLV (γ 17) rfl (zIP w_4 (zLV (ρ 15) rfl (zLE (show fn11 [ρ 15] (γ 17) = (0, 0, γ 18) from l18.symm) (zLV (γ 18) rfl (zIN zQ0_ (zLE c19.symm (zLE c20.symm ?_)))))))
    refine zLE c21.symm ?_
    rfl
  exact zGoo_end hD
theorem vn14_6 {S : Nat → zSpc} (hS6 : zIm S 6 sn6) (hS8 : zIm S 8 sn8) (hS11 : zIm S 11 sn11) {a : List Int} {g : rHp} : ∀ (ρ : Nat → Int) (γ : Nat → rHp), zO 4 S a g q14_6 ρ γ → zGl (fun i vs g1 => jn14 a g i vs g1) (sn14 a g) q14_6 ρ γ := by
  intro ρ γ h
  obtain ⟨ha, hg, hr, hf, hm, hc, hl⟩ := h
  have ha : a = [ρ 0, ρ 1, ρ 2, ρ 3] := ha
  subst ha
  subst hg
  have r4 : ((-128) : Int) ≤ ρ 4 ∧ ρ 4 ≤ 127 := zRnA hr 4
  have f0 : (0 : Int) ≤ ρ 1 + -ρ 0 + (-7) := zAllA hf 0
  obtain ⟨w_0, w_1, w_2, w_3, w_4, w_5⟩ : (0 ≤ ρ 1 + -ρ 0 + (-2)) ∧ (0 ≤ ρ 1 + -ρ 0 + (-3)) ∧ (0 ≤ ρ 1 + -ρ 0 + (-4)) ∧ (0 ≤ ρ 1 + -ρ 0 + (-5)) ∧ (0 ≤ ρ 1 + -ρ 0 + (-6)) ∧ (0 ≤ ρ 1 + -ρ 0 + (-7)) := ⟨by omega, by omega, by omega, by omega, by omega, by omega⟩
  have m0 : γ 0 15 0 35 = ρ 0 := zAllA hm 0
  have m1 : γ 0 15 0 34 = ρ 1 := zAllA hm 1
  have c22 : γ 22 = rUp (γ 21) 15 0 35 (ρ 0 + 6) := And.right (zChA hc 2)
  have c23 : γ 23 = rUp (γ 22) 15 0 39 (ρ 16 + (10 * ρ 14 + (100 * ρ 12 + (1000 * ρ 10 + (10000 * ρ 8 + 100000 * ρ 6)))) + (-5333328)) := And.right (zChA hc 1)
  have c24 : γ 24 = rUp (γ 23) 15 0 40 0 := And.right (zChA hc 0)
  have l0 : sn6 [ρ 0, ρ 1] (γ 0) 0 (ρ 4) (γ 1) := hS6 _ _ _ _ _ (zAllA hl 0)
  have l1 : ρ 4 ≠ 45 := zAllA hl 1
  have l2 : sn6 [ρ 0, ρ 1] (γ 1) 0 (ρ 5) (γ 2) := hS6 _ _ _ _ _ (zAllA hl 2)
  have l3 : sn11 [ρ 5] (γ 2) 0 1 (γ 3) := hS11 _ _ _ _ _ (zAllA hl 3)
  have l4 : sn6 [ρ 0, ρ 1] (γ 3) 0 (ρ 6) (γ 4) := hS6 _ _ _ _ _ (zAllA hl 4)
  have l5 : sn6 [ρ 0 + 1, ρ 1] (γ 4) 0 (ρ 7) (γ 5) := hS6 _ _ _ _ _ (zAllA hl 5)
  have l6 : sn11 [ρ 7] (γ 5) 0 1 (γ 6) := hS11 _ _ _ _ _ (zAllA hl 6)
  have l7 : sn6 [ρ 0 + 1, ρ 1] (γ 6) 0 (ρ 8) (γ 7) := hS6 _ _ _ _ _ (zAllA hl 7)
  have l8 : sn6 [ρ 0 + 2, ρ 1] (γ 7) 0 (ρ 9) (γ 8) := hS6 _ _ _ _ _ (zAllA hl 8)
  have l9 : sn11 [ρ 9] (γ 8) 0 1 (γ 9) := hS11 _ _ _ _ _ (zAllA hl 9)
  have l10 : sn6 [ρ 0 + 2, ρ 1] (γ 9) 0 (ρ 10) (γ 10) := hS6 _ _ _ _ _ (zAllA hl 10)
  have l11 : sn6 [ρ 0 + 3, ρ 1] (γ 10) 0 (ρ 11) (γ 11) := hS6 _ _ _ _ _ (zAllA hl 11)
  have l12 : sn11 [ρ 11] (γ 11) 0 1 (γ 12) := hS11 _ _ _ _ _ (zAllA hl 12)
  have l13 : sn6 [ρ 0 + 3, ρ 1] (γ 12) 0 (ρ 12) (γ 13) := hS6 _ _ _ _ _ (zAllA hl 13)
  have l14 : sn6 [ρ 0 + 4, ρ 1] (γ 13) 0 (ρ 13) (γ 14) := hS6 _ _ _ _ _ (zAllA hl 14)
  have l15 : sn11 [ρ 13] (γ 14) 0 1 (γ 15) := hS11 _ _ _ _ _ (zAllA hl 15)
  have l16 : sn6 [ρ 0 + 4, ρ 1] (γ 15) 0 (ρ 14) (γ 16) := hS6 _ _ _ _ _ (zAllA hl 16)
  have l17 : sn6 [ρ 0 + 5, ρ 1] (γ 16) 0 (ρ 15) (γ 17) := hS6 _ _ _ _ _ (zAllA hl 17)
  have l18 : sn11 [ρ 15] (γ 17) 0 1 (γ 18) := hS11 _ _ _ _ _ (zAllA hl 18)
  have l19 : sn6 [ρ 0 + 5, ρ 1] (γ 18) 0 (ρ 16) (γ 19) := hS6 _ _ _ _ _ (zAllA hl 19)
  have l20 : sn6 [ρ 0 + 6, ρ 1] (γ 19) 0 (ρ 17) (γ 20) := hS6 _ _ _ _ _ (zAllA hl 20)
  have l21 : sn11 [ρ 17] (γ 20) 0 0 (γ 21) := hS11 _ _ _ _ _ (zAllA hl 21)
  have wl_0 : ρ 4 ≠ 45 := by omega
  show sn14 [ρ 0, ρ 1, ρ 2, ρ 3] (γ 0) 0 1 (γ 24)
  have hD : dn14 [] (γ 0) = .inr (0, 1, γ 24) := by
    unfold dn14
    refine zLE m0 (zLE m1 (zLE (show fn6 [ρ 0] (γ 0) = (0, ρ 4, γ 1) from l0.symm) (zLV (γ 1) rfl (zLV (ρ 4) rfl (zIP wl_0 (zLE (show fn6 [ρ 0] (γ 1) = (0, ρ 5, γ 2) from l2.symm) (zLV (γ 2) rfl ?_)))))))
    refine zLV (ρ 5) rfl (zLE (show fn11 [ρ 5] (γ 2) = (0, 1, γ 3) from l3.symm) (zLV (γ 3) rfl (zIP zQ1_ (zLE (show fn6 [ρ 0] (γ 3) = (0, ρ 6, γ 4) from l4.symm) (zLV (γ 4) rfl (zLV (ρ 6) rfl (zLE (show fn6 [ρ 0 + 1] (γ 4) = (0, ρ 7, γ 5) from l5.symm) ?_)))))))
    refine zLV (γ 5) rfl (zIP w_0 (zLV (ρ 7) rfl (zLE (show fn11 [ρ 7] (γ 5) = (0, 1, γ 6) from l6.symm) (zLV (γ 6) rfl (zIP zQ1_ (zLE (show fn6 [ρ 0 + 1] (γ 6) = (0, ρ 8, γ 7) from l7.symm) (zLV (γ 7) rfl ?_)))))))
    refine zLV (ρ 8) rfl (zLE (show fn6 [ρ 0 + 2] (γ 7) = (0, ρ 9, γ 8) from l8.symm) (zLV (γ 8) rfl (zIP w_1 (zLV (ρ 9) rfl (zLE (show fn11 [ρ 9] (γ 8) = (0, 1, γ 9) from l9.symm) (zLV (γ 9) rfl (zIP zQ1_ ?_)))))))
    refine zLE (show fn6 [ρ 0 + 2] (γ 9) = (0, ρ 10, γ 10) from l10.symm) (zLV (γ 10) rfl (zLV (ρ 10) rfl (zLE (show fn6 [ρ 0 + 3] (γ 10) = (0, ρ 11, γ 11) from l11.symm) (zLV (γ 11) rfl (zIP w_2 (zLV (ρ 11) rfl (zLE (show fn11 [ρ 11] (γ 11) = (0, 1, γ 12) from l12.symm) ?_)))))))
    refine zLV (γ 12) rfl (zIP zQ1_ (zLE (show fn6 [ρ 0 + 3] (γ 12) = (0, ρ 12, γ 13) from l13.symm) (zLV (γ 13) rfl (zLV (ρ 12) rfl (zLE (show fn6 [ρ 0 + 4] (γ 13) = (0, ρ 13, γ 14) from l14.symm) (zLV (γ 14) rfl (zIP w_3 ?_)))))))
    refine zLV (ρ 13) rfl (zLE (show fn11 [ρ 13] (γ 14) = (0, 1, γ 15) from l15.symm) (zLV (γ 15) rfl (zIP zQ1_ (zLE (show fn6 [ρ 0 + 4] (γ 15) = (0, ρ 14, γ 16) from l16.symm) (zLV (γ 16) rfl (zLV (ρ 14) rfl (zLE (show fn6 [ρ 0 + 5] (γ 16) = (0, ρ 15, γ 17) from l17.symm) ?_)))))))
    refine zLV (γ 17) rfl (zIP w_4 (zLV (ρ 15) rfl (zLE (show fn11 [ρ 15] (γ 17) = (0, 1, γ 18) from l18.symm) (zLV (γ 18) rfl (zIP zQ1_ (zLE (show fn6 [ρ 0 + 5] (γ 18) = (0, ρ 16, γ 19) from l19.symm) (zLV (γ 19) rfl ?_)))))))
    refine zLV (ρ 16) rfl (zLE (show fn6 [ρ 0 + 6] (γ 19) = (0, ρ 17, γ 20) from l20.symm) (zLV (γ 20) rfl (zIP w_5 (zLV (ρ 17) rfl (zLE (show fn11 [ρ 17] (γ 20) = (0, 0, γ 21) from l21.symm) (zLV (γ 21) rfl (zIN zQ0_ ?_)))))))
    refine zLE c22.symm (zLE c23.symm (zLE c24.symm ?_))
    rfl
  exact zGoo_end hD
theorem vn14_7 {S : Nat → zSpc} (hS6 : zIm S 6 sn6) (hS8 : zIm S 8 sn8) (hS11 : zIm S 11 sn11) {a : List Int} {g : rHp} : ∀ (ρ : Nat → Int) (γ : Nat → rHp), zO 4 S a g q14_7 ρ γ → zGl (fun i vs g1 => jn14 a g i vs g1) (sn14 a g) q14_7 ρ γ := by
  intro ρ γ h
  obtain ⟨ha, hg, hr, hf, hm, hc, hl⟩ := h
  have ha : a = [ρ 0, ρ 1, ρ 2, ρ 3] := ha
  subst ha
  subst hg
  have r4 : ((-128) : Int) ≤ ρ 4 ∧ ρ 4 ≤ 127 := zRnA hr 4
  have f0 : (0 : Int) ≤ ρ 1 + -ρ 0 + (-8) := zAllA hf 0
  obtain ⟨w_0, w_1, w_2, w_3, w_4, w_5, w_6⟩ : (0 ≤ ρ 1 + -ρ 0 + (-2)) ∧ (0 ≤ ρ 1 + -ρ 0 + (-3)) ∧ (0 ≤ ρ 1 + -ρ 0 + (-4)) ∧ (0 ≤ ρ 1 + -ρ 0 + (-5)) ∧ (0 ≤ ρ 1 + -ρ 0 + (-6)) ∧ (0 ≤ ρ 1 + -ρ 0 + (-7)) ∧ (0 ≤ ρ 1 + -ρ 0 + (-8)) := ⟨by omega, by omega, by omega, by omega, by omega, by omega, by omega⟩
  have m0 : γ 0 15 0 35 = ρ 0 := zAllA hm 0
  have m1 : γ 0 15 0 34 = ρ 1 := zAllA hm 1
  have c25 : γ 25 = rUp (γ 24) 15 0 35 (ρ 0 + 7) := And.right (zChA hc 2)
  have c26 : γ 26 = rUp (γ 25) 15 0 39 (ρ 18 + (10 * ρ 16 + (100 * ρ 14 + (1000 * ρ 12 + (10000 * ρ 10 + (100000 * ρ 8 + 1000000 * ρ 6))))) + (-53333328)) := And.right (zChA hc 1)
  have c27 : γ 27 = rUp (γ 26) 15 0 40 0 := And.right (zChA hc 0)
  have l0 : sn6 [ρ 0, ρ 1] (γ 0) 0 (ρ 4) (γ 1) := hS6 _ _ _ _ _ (zAllA hl 0)
  have l1 : ρ 4 ≠ 45 := zAllA hl 1
  have l2 : sn6 [ρ 0, ρ 1] (γ 1) 0 (ρ 5) (γ 2) := hS6 _ _ _ _ _ (zAllA hl 2)
  have l3 : sn11 [ρ 5] (γ 2) 0 1 (γ 3) := hS11 _ _ _ _ _ (zAllA hl 3)
  have l4 : sn6 [ρ 0, ρ 1] (γ 3) 0 (ρ 6) (γ 4) := hS6 _ _ _ _ _ (zAllA hl 4)
  have l5 : sn6 [ρ 0 + 1, ρ 1] (γ 4) 0 (ρ 7) (γ 5) := hS6 _ _ _ _ _ (zAllA hl 5)
  have l6 : sn11 [ρ 7] (γ 5) 0 1 (γ 6) := hS11 _ _ _ _ _ (zAllA hl 6)
  have l7 : sn6 [ρ 0 + 1, ρ 1] (γ 6) 0 (ρ 8) (γ 7) := hS6 _ _ _ _ _ (zAllA hl 7)
  have l8 : sn6 [ρ 0 + 2, ρ 1] (γ 7) 0 (ρ 9) (γ 8) := hS6 _ _ _ _ _ (zAllA hl 8)
  have l9 : sn11 [ρ 9] (γ 8) 0 1 (γ 9) := hS11 _ _ _ _ _ (zAllA hl 9)
  have l10 : sn6 [ρ 0 + 2, ρ 1] (γ 9) 0 (ρ 10) (γ 10) := hS6 _ _ _ _ _ (zAllA hl 10)
  have l11 : sn6 [ρ 0 + 3, ρ 1] (γ 10) 0 (ρ 11) (γ 11) := hS6 _ _ _ _ _ (zAllA hl 11)
  have l12 : sn11 [ρ 11] (γ 11) 0 1 (γ 12) := hS11 _ _ _ _ _ (zAllA hl 12)
  have l13 : sn6 [ρ 0 + 3, ρ 1] (γ 12) 0 (ρ 12) (γ 13) := hS6 _ _ _ _ _ (zAllA hl 13)
  have l14 : sn6 [ρ 0 + 4, ρ 1] (γ 13) 0 (ρ 13) (γ 14) := hS6 _ _ _ _ _ (zAllA hl 14)
  have l15 : sn11 [ρ 13] (γ 14) 0 1 (γ 15) := hS11 _ _ _ _ _ (zAllA hl 15)
  have l16 : sn6 [ρ 0 + 4, ρ 1] (γ 15) 0 (ρ 14) (γ 16) := hS6 _ _ _ _ _ (zAllA hl 16)
  have l17 : sn6 [ρ 0 + 5, ρ 1] (γ 16) 0 (ρ 15) (γ 17) := hS6 _ _ _ _ _ (zAllA hl 17)
  have l18 : sn11 [ρ 15] (γ 17) 0 1 (γ 18) := hS11 _ _ _ _ _ (zAllA hl 18)
  have l19 : sn6 [ρ 0 + 5, ρ 1] (γ 18) 0 (ρ 16) (γ 19) := hS6 _ _ _ _ _ (zAllA hl 19)
  have l20 : sn6 [ρ 0 + 6, ρ 1] (γ 19) 0 (ρ 17) (γ 20) := hS6 _ _ _ _ _ (zAllA hl 20)
  have l21 : sn11 [ρ 17] (γ 20) 0 1 (γ 21) := hS11 _ _ _ _ _ (zAllA hl 21)
  have l22 : sn6 [ρ 0 + 6, ρ 1] (γ 21) 0 (ρ 18) (γ 22) := hS6 _ _ _ _ _ (zAllA hl 22)
  have l23 : sn6 [ρ 0 + 7, ρ 1] (γ 22) 0 (ρ 19) (γ 23) := hS6 _ _ _ _ _ (zAllA hl 23)
  have l24 : sn11 [ρ 19] (γ 23) 0 0 (γ 24) := hS11 _ _ _ _ _ (zAllA hl 24)
  have wl_0 : ρ 4 ≠ 45 := by omega
  show sn14 [ρ 0, ρ 1, ρ 2, ρ 3] (γ 0) 0 1 (γ 27)
  have hD : dn14 [] (γ 0) = .inr (0, 1, γ 27) := by
    unfold dn14
    refine zLE m0 (zLE m1 (zLE (show fn6 [ρ 0] (γ 0) = (0, ρ 4, γ 1) from l0.symm) (zLV (γ 1) rfl (zLV (ρ 4) rfl (zIP wl_0 (zLE (show fn6 [ρ 0] (γ 1) = (0, ρ 5, γ 2) from l2.symm) (zLV (γ 2) rfl ?_)))))))
    refine zLV (ρ 5) rfl (zLE (show fn11 [ρ 5] (γ 2) = (0, 1, γ 3) from l3.symm) (zLV (γ 3) rfl (zIP zQ1_ (zLE (show fn6 [ρ 0] (γ 3) = (0, ρ 6, γ 4) from l4.symm) (zLV (γ 4) rfl (zLV (ρ 6) rfl (zLE (show fn6 [ρ 0 + 1] (γ 4) = (0, ρ 7, γ 5) from l5.symm) ?_)))))))
    refine zLV (γ 5) rfl (zIP w_0 (zLV (ρ 7) rfl (zLE (show fn11 [ρ 7] (γ 5) = (0, 1, γ 6) from l6.symm) (zLV (γ 6) rfl (zIP zQ1_ (zLE (show fn6 [ρ 0 + 1] (γ 6) = (0, ρ 8, γ 7) from l7.symm) (zLV (γ 7) rfl ?_)))))))
    refine zLV (ρ 8) rfl (zLE (show fn6 [ρ 0 + 2] (γ 7) = (0, ρ 9, γ 8) from l8.symm) (zLV (γ 8) rfl (zIP w_1 (zLV (ρ 9) rfl (zLE (show fn11 [ρ 9] (γ 8) = (0, 1, γ 9) from l9.symm) (zLV (γ 9) rfl (zIP zQ1_ ?_)))))))
    refine zLE (show fn6 [ρ 0 + 2] (γ 9) = (0, ρ 10, γ 10) from l10.symm) (zLV (γ 10) rfl (zLV (ρ 10) rfl (zLE (show fn6 [ρ 0 + 3] (γ 10) = (0, ρ 11, γ 11) from l11.symm) (zLV (γ 11) rfl (zIP w_2 (zLV (ρ 11) rfl (zLE (show fn11 [ρ 11] (γ 11) = (0, 1, γ 12) from l12.symm) ?_)))))))
    refine zLV (γ 12) rfl (zIP zQ1_ (zLE (show fn6 [ρ 0 + 3] (γ 12) = (0, ρ 12, γ 13) from l13.symm) (zLV (γ 13) rfl (zLV (ρ 12) rfl (zLE (show fn6 [ρ 0 + 4] (γ 13) = (0, ρ 13, γ 14) from l14.symm) (zLV (γ 14) rfl (zIP w_3 ?_)))))))
    refine zLV (ρ 13) rfl (zLE (show fn11 [ρ 13] (γ 14) = (0, 1, γ 15) from l15.symm) (zLV (γ 15) rfl (zIP zQ1_ (zLE (show fn6 [ρ 0 + 4] (γ 15) = (0, ρ 14, γ 16) from l16.symm) (zLV (γ 16) rfl (zLV (ρ 14) rfl (zLE (show fn6 [ρ 0 + 5] (γ 16) = (0, ρ 15, γ 17) from l17.symm) ?_)))))))
    refine zLV (γ 17) rfl (zIP w_4 (zLV (ρ 15) rfl (zLE (show fn11 [ρ 15] (γ 17) = (0, 1, γ 18) from l18.symm) (zLV (γ 18) rfl (zIP zQ1_ (zLE (show fn6 [ρ 0 + 5] (γ 18) = (0, ρ 16, γ 19) from l19.symm) (zLV (γ 19) rfl ?_)))))))
    refine zLV (ρ 16) rfl (zLE (show fn6 [ρ 0 + 6] (γ 19) = (0, ρ 17, γ 20) from l20.symm) (zLV (γ 20) rfl (zIP w_5 (zLV (ρ 17) rfl (zLE (show fn11 [ρ 17] (γ 20) = (0, 1, γ 21) from l21.symm) (zLV (γ 21) rfl (zIP zQ1_ ?_)))))))
    refine zLE (show fn6 [ρ 0 + 6] (γ 21) = (0, ρ 18, γ 22) from l22.symm) (zLV (γ 22) rfl (zLV (ρ 18) rfl (zLE (show fn6 [ρ 0 + 7] (γ 22) = (0, ρ 19, γ 23) from l23.symm) (zLV (γ 23) rfl (zIP w_6 (zLV (ρ 19) rfl (zLE (show fn11 [ρ 19] (γ 23) = (0, 0, γ 24) from l24.symm) ?_)))))))
    refine zLV (γ 24) rfl (zIN zQ0_ (zLE c25.symm (zLE c26.symm (zLE c27.symm ?_))))
    rfl
  exact zGoo_end hD
theorem vn14_8 {S : Nat → zSpc} (hS6 : zIm S 6 sn6) (hS8 : zIm S 8 sn8) (hS11 : zIm S 11 sn11) {a : List Int} {g : rHp} : ∀ (ρ : Nat → Int) (γ : Nat → rHp), zO 4 S a g q14_8 ρ γ → zGl (fun i vs g1 => jn14 a g i vs g1) (sn14 a g) q14_8 ρ γ := by
  intro ρ γ h
  obtain ⟨ha, hg, hr, hf, hm, hc, hl⟩ := h
  have ha : a = [ρ 0, ρ 1, ρ 2, ρ 3] := ha
  subst ha
  subst hg
  have r4 : ((-128) : Int) ≤ ρ 4 ∧ ρ 4 ≤ 127 := zRnA hr 4
  have f0 : (0 : Int) ≤ ρ 1 + -ρ 0 + (-8) := zAllA hf 0
  obtain ⟨w_0, w_1, w_2, w_3, w_4, w_5, w_6⟩ : (0 ≤ ρ 1 + -ρ 0 + (-2)) ∧ (0 ≤ ρ 1 + -ρ 0 + (-3)) ∧ (0 ≤ ρ 1 + -ρ 0 + (-4)) ∧ (0 ≤ ρ 1 + -ρ 0 + (-5)) ∧ (0 ≤ ρ 1 + -ρ 0 + (-6)) ∧ (0 ≤ ρ 1 + -ρ 0 + (-7)) ∧ (0 ≤ ρ 1 + -ρ 0 + (-8)) := ⟨by omega, by omega, by omega, by omega, by omega, by omega, by omega⟩
  have m0 : γ 0 15 0 35 = ρ 0 := zAllA hm 0
  have m1 : γ 0 15 0 34 = ρ 1 := zAllA hm 1
  have l0 : sn6 [ρ 0, ρ 1] (γ 0) 0 (ρ 4) (γ 1) := hS6 _ _ _ _ _ (zAllA hl 0)
  have l1 : ρ 4 ≠ 45 := zAllA hl 1
  have l2 : sn6 [ρ 0, ρ 1] (γ 1) 0 (ρ 5) (γ 2) := hS6 _ _ _ _ _ (zAllA hl 2)
  have l3 : sn11 [ρ 5] (γ 2) 0 1 (γ 3) := hS11 _ _ _ _ _ (zAllA hl 3)
  have l4 : sn6 [ρ 0, ρ 1] (γ 3) 0 (ρ 6) (γ 4) := hS6 _ _ _ _ _ (zAllA hl 4)
  have l5 : sn6 [ρ 0 + 1, ρ 1] (γ 4) 0 (ρ 7) (γ 5) := hS6 _ _ _ _ _ (zAllA hl 5)
  have l6 : sn11 [ρ 7] (γ 5) 0 1 (γ 6) := hS11 _ _ _ _ _ (zAllA hl 6)
  have l7 : sn6 [ρ 0 + 1, ρ 1] (γ 6) 0 (ρ 8) (γ 7) := hS6 _ _ _ _ _ (zAllA hl 7)
  have l8 : sn6 [ρ 0 + 2, ρ 1] (γ 7) 0 (ρ 9) (γ 8) := hS6 _ _ _ _ _ (zAllA hl 8)
  have l9 : sn11 [ρ 9] (γ 8) 0 1 (γ 9) := hS11 _ _ _ _ _ (zAllA hl 9)
  have l10 : sn6 [ρ 0 + 2, ρ 1] (γ 9) 0 (ρ 10) (γ 10) := hS6 _ _ _ _ _ (zAllA hl 10)
  have l11 : sn6 [ρ 0 + 3, ρ 1] (γ 10) 0 (ρ 11) (γ 11) := hS6 _ _ _ _ _ (zAllA hl 11)
  have l12 : sn11 [ρ 11] (γ 11) 0 1 (γ 12) := hS11 _ _ _ _ _ (zAllA hl 12)
  have l13 : sn6 [ρ 0 + 3, ρ 1] (γ 12) 0 (ρ 12) (γ 13) := hS6 _ _ _ _ _ (zAllA hl 13)
  have l14 : sn6 [ρ 0 + 4, ρ 1] (γ 13) 0 (ρ 13) (γ 14) := hS6 _ _ _ _ _ (zAllA hl 14)
  have l15 : sn11 [ρ 13] (γ 14) 0 1 (γ 15) := hS11 _ _ _ _ _ (zAllA hl 15)
  have l16 : sn6 [ρ 0 + 4, ρ 1] (γ 15) 0 (ρ 14) (γ 16) := hS6 _ _ _ _ _ (zAllA hl 16)
  have l17 : sn6 [ρ 0 + 5, ρ 1] (γ 16) 0 (ρ 15) (γ 17) := hS6 _ _ _ _ _ (zAllA hl 17)
  have l18 : sn11 [ρ 15] (γ 17) 0 1 (γ 18) := hS11 _ _ _ _ _ (zAllA hl 18)
  have l19 : sn6 [ρ 0 + 5, ρ 1] (γ 18) 0 (ρ 16) (γ 19) := hS6 _ _ _ _ _ (zAllA hl 19)
  have l20 : sn6 [ρ 0 + 6, ρ 1] (γ 19) 0 (ρ 17) (γ 20) := hS6 _ _ _ _ _ (zAllA hl 20)
  have l21 : sn11 [ρ 17] (γ 20) 0 1 (γ 21) := hS11 _ _ _ _ _ (zAllA hl 21)
  have l22 : sn6 [ρ 0 + 6, ρ 1] (γ 21) 0 (ρ 18) (γ 22) := hS6 _ _ _ _ _ (zAllA hl 22)
  have l23 : sn6 [ρ 0 + 7, ρ 1] (γ 22) 0 (ρ 19) (γ 23) := hS6 _ _ _ _ _ (zAllA hl 23)
  have l24 : sn11 [ρ 19] (γ 23) 0 1 (γ 24) := hS11 _ _ _ _ _ (zAllA hl 24)
  have l25 : sn6 [ρ 0 + 7, ρ 1] (γ 24) 0 (ρ 20) (γ 25) := hS6 _ _ _ _ _ (zAllA hl 25)
  have wl_0 : ρ 4 ≠ 45 := by omega
  show jn14 [ρ 0, ρ 1, ρ 2, ρ 3] (γ 0) 0 [ρ 0, ρ 1, ρ 2, ρ 3, ρ 0 + 8, ρ 20 + (10 * ρ 18 + (100 * ρ 16 + (1000 * ρ 14 + (10000 * ρ 12 + (100000 * ρ 10 + (1000000 * ρ 8 + 10000000 * ρ 6)))))) + (-533333328), ρ 0, 0] (γ 25)
  have hD : dn14 [] (γ 0) = .inl (0, [ρ 0 + 8, ρ 20 + (10 * ρ 18 + (100 * ρ 16 + (1000 * ρ 14 + (10000 * ρ 12 + (100000 * ρ 10 + (1000000 * ρ 8 + 10000000 * ρ 6)))))) + (-533333328), ρ 0, 0], γ 25) := by
    unfold dn14
    refine zLE m0 (zLE m1 (zLE (show fn6 [ρ 0] (γ 0) = (0, ρ 4, γ 1) from l0.symm) (zLV (γ 1) rfl (zLV (ρ 4) rfl (zIP wl_0 (zLE (show fn6 [ρ 0] (γ 1) = (0, ρ 5, γ 2) from l2.symm) (zLV (γ 2) rfl ?_)))))))
    refine zLV (ρ 5) rfl (zLE (show fn11 [ρ 5] (γ 2) = (0, 1, γ 3) from l3.symm) (zLV (γ 3) rfl (zIP zQ1_ (zLE (show fn6 [ρ 0] (γ 3) = (0, ρ 6, γ 4) from l4.symm) (zLV (γ 4) rfl (zLV (ρ 6) rfl (zLE (show fn6 [ρ 0 + 1] (γ 4) = (0, ρ 7, γ 5) from l5.symm) ?_)))))))
    refine zLV (γ 5) rfl (zIP w_0 (zLV (ρ 7) rfl (zLE (show fn11 [ρ 7] (γ 5) = (0, 1, γ 6) from l6.symm) (zLV (γ 6) rfl (zIP zQ1_ (zLE (show fn6 [ρ 0 + 1] (γ 6) = (0, ρ 8, γ 7) from l7.symm) (zLV (γ 7) rfl ?_)))))))
    refine zLV (ρ 8) rfl (zLE (show fn6 [ρ 0 + 2] (γ 7) = (0, ρ 9, γ 8) from l8.symm) (zLV (γ 8) rfl (zIP w_1 (zLV (ρ 9) rfl (zLE (show fn11 [ρ 9] (γ 8) = (0, 1, γ 9) from l9.symm) (zLV (γ 9) rfl (zIP zQ1_ ?_)))))))
    refine zLE (show fn6 [ρ 0 + 2] (γ 9) = (0, ρ 10, γ 10) from l10.symm) (zLV (γ 10) rfl (zLV (ρ 10) rfl (zLE (show fn6 [ρ 0 + 3] (γ 10) = (0, ρ 11, γ 11) from l11.symm) (zLV (γ 11) rfl (zIP w_2 (zLV (ρ 11) rfl (zLE (show fn11 [ρ 11] (γ 11) = (0, 1, γ 12) from l12.symm) ?_)))))))
    refine zLV (γ 12) rfl (zIP zQ1_ (zLE (show fn6 [ρ 0 + 3] (γ 12) = (0, ρ 12, γ 13) from l13.symm) (zLV (γ 13) rfl (zLV (ρ 12) rfl (zLE (show fn6 [ρ 0 + 4] (γ 13) = (0, ρ 13, γ 14) from l14.symm) (zLV (γ 14) rfl (zIP w_3 ?_)))))))
    refine zLV (ρ 13) rfl (zLE (show fn11 [ρ 13] (γ 14) = (0, 1, γ 15) from l15.symm) (zLV (γ 15) rfl (zIP zQ1_ (zLE (show fn6 [ρ 0 + 4] (γ 15) = (0, ρ 14, γ 16) from l16.symm) (zLV (γ 16) rfl (zLV (ρ 14) rfl (zLE (show fn6 [ρ 0 + 5] (γ 16) = (0, ρ 15, γ 17) from l17.symm) ?_)))))))
    refine zLV (γ 17) rfl (zIP w_4 (zLV (ρ 15) rfl (zLE (show fn11 [ρ 15] (γ 17) = (0, 1, γ 18) from l18.symm) (zLV (γ 18) rfl (zIP zQ1_ (zLE (show fn6 [ρ 0 + 5] (γ 18) = (0, ρ 16, γ 19) from l19.symm) (zLV (γ 19) rfl ?_)))))))
    refine zLV (ρ 16) rfl (zLE (show fn6 [ρ 0 + 6] (γ 19) = (0, ρ 17, γ 20) from l20.symm) (zLV (γ 20) rfl (zIP w_5 (zLV (ρ 17) rfl (zLE (show fn11 [ρ 17] (γ 20) = (0, 1, γ 21) from l21.symm) (zLV (γ 21) rfl (zIP zQ1_ ?_)))))))
    refine zLE (show fn6 [ρ 0 + 6] (γ 21) = (0, ρ 18, γ 22) from l22.symm) (zLV (γ 22) rfl (zLV (ρ 18) rfl (zLE (show fn6 [ρ 0 + 7] (γ 22) = (0, ρ 19, γ 23) from l23.symm) (zLV (γ 23) rfl (zIP w_6 (zLV (ρ 19) rfl (zLE (show fn11 [ρ 19] (γ 23) = (0, 1, γ 24) from l24.symm) ?_)))))))
    refine zLV (γ 24) rfl (zIP zQ1_ (zLE (show fn6 [ρ 0 + 7] (γ 24) = (0, ρ 20, γ 25) from l25.symm) (zLV (γ 25) rfl (zLV (ρ 20) rfl ?_))))
    rfl
  exact zGoo_to hD
theorem vn14_9 {S : Nat → zSpc} (hS6 : zIm S 6 sn6) (hS8 : zIm S 8 sn8) (hS11 : zIm S 11 sn11) {a : List Int} {g : rHp} : ∀ (ρ : Nat → Int) (γ : Nat → rHp), zO 4 S a g q14_9 ρ γ → zGl (fun i vs g1 => jn14 a g i vs g1) (sn14 a g) q14_9 ρ γ := by
  intro ρ γ h
  obtain ⟨ha, hg, hr, hf, hm, hc, hl⟩ := h
  have ha : a = [ρ 0, ρ 1, ρ 2, ρ 3] := ha
  subst ha
  subst hg
  have r4 : ((-128) : Int) ≤ ρ 4 ∧ ρ 4 ≤ 127 := zRnA hr 4
  have f0 : (0 : Int) ≤ -ρ 1 + ρ 0 + 7 := zAllA hf 0
  have f1 : (0 : Int) ≤ ρ 1 + -ρ 0 + (-7) := zAllA hf 1
  obtain ⟨w_0, w_1, w_2, w_3, w_4, w_5, w_6⟩ : (0 ≤ ρ 1 + -ρ 0 + (-2)) ∧ (0 ≤ ρ 1 + -ρ 0 + (-3)) ∧ (0 ≤ ρ 1 + -ρ 0 + (-4)) ∧ (0 ≤ ρ 1 + -ρ 0 + (-5)) ∧ (0 ≤ ρ 1 + -ρ 0 + (-6)) ∧ (0 ≤ ρ 1 + -ρ 0 + (-7)) ∧ (¬ (0 ≤ ρ 1 + -ρ 0 + (-8))) := ⟨by omega, by omega, by omega, by omega, by omega, by omega, by omega⟩
  have m0 : γ 0 15 0 35 = ρ 0 := zAllA hm 0
  have m1 : γ 0 15 0 34 = ρ 1 := zAllA hm 1
  have c25 : γ 25 = rUp (γ 24) 15 0 35 (ρ 0 + 7) := And.right (zChA hc 2)
  have c26 : γ 26 = rUp (γ 25) 15 0 39 (ρ 18 + (10 * ρ 16 + (100 * ρ 14 + (1000 * ρ 12 + (10000 * ρ 10 + (100000 * ρ 8 + 1000000 * ρ 6))))) + (-53333328)) := And.right (zChA hc 1)
  have c27 : γ 27 = rUp (γ 26) 15 0 40 0 := And.right (zChA hc 0)
  have l0 : sn6 [ρ 0, ρ 1] (γ 0) 0 (ρ 4) (γ 1) := hS6 _ _ _ _ _ (zAllA hl 0)
  have l1 : ρ 4 ≠ 45 := zAllA hl 1
  have l2 : sn6 [ρ 0, ρ 1] (γ 1) 0 (ρ 5) (γ 2) := hS6 _ _ _ _ _ (zAllA hl 2)
  have l3 : sn11 [ρ 5] (γ 2) 0 1 (γ 3) := hS11 _ _ _ _ _ (zAllA hl 3)
  have l4 : sn6 [ρ 0, ρ 1] (γ 3) 0 (ρ 6) (γ 4) := hS6 _ _ _ _ _ (zAllA hl 4)
  have l5 : sn6 [ρ 0 + 1, ρ 1] (γ 4) 0 (ρ 7) (γ 5) := hS6 _ _ _ _ _ (zAllA hl 5)
  have l6 : sn11 [ρ 7] (γ 5) 0 1 (γ 6) := hS11 _ _ _ _ _ (zAllA hl 6)
  have l7 : sn6 [ρ 0 + 1, ρ 1] (γ 6) 0 (ρ 8) (γ 7) := hS6 _ _ _ _ _ (zAllA hl 7)
  have l8 : sn6 [ρ 0 + 2, ρ 1] (γ 7) 0 (ρ 9) (γ 8) := hS6 _ _ _ _ _ (zAllA hl 8)
  have l9 : sn11 [ρ 9] (γ 8) 0 1 (γ 9) := hS11 _ _ _ _ _ (zAllA hl 9)
  have l10 : sn6 [ρ 0 + 2, ρ 1] (γ 9) 0 (ρ 10) (γ 10) := hS6 _ _ _ _ _ (zAllA hl 10)
  have l11 : sn6 [ρ 0 + 3, ρ 1] (γ 10) 0 (ρ 11) (γ 11) := hS6 _ _ _ _ _ (zAllA hl 11)
  have l12 : sn11 [ρ 11] (γ 11) 0 1 (γ 12) := hS11 _ _ _ _ _ (zAllA hl 12)
  have l13 : sn6 [ρ 0 + 3, ρ 1] (γ 12) 0 (ρ 12) (γ 13) := hS6 _ _ _ _ _ (zAllA hl 13)
  have l14 : sn6 [ρ 0 + 4, ρ 1] (γ 13) 0 (ρ 13) (γ 14) := hS6 _ _ _ _ _ (zAllA hl 14)
  have l15 : sn11 [ρ 13] (γ 14) 0 1 (γ 15) := hS11 _ _ _ _ _ (zAllA hl 15)
  have l16 : sn6 [ρ 0 + 4, ρ 1] (γ 15) 0 (ρ 14) (γ 16) := hS6 _ _ _ _ _ (zAllA hl 16)
  have l17 : sn6 [ρ 0 + 5, ρ 1] (γ 16) 0 (ρ 15) (γ 17) := hS6 _ _ _ _ _ (zAllA hl 17)
  have l18 : sn11 [ρ 15] (γ 17) 0 1 (γ 18) := hS11 _ _ _ _ _ (zAllA hl 18)
  have l19 : sn6 [ρ 0 + 5, ρ 1] (γ 18) 0 (ρ 16) (γ 19) := hS6 _ _ _ _ _ (zAllA hl 19)
  have l20 : sn6 [ρ 0 + 6, ρ 1] (γ 19) 0 (ρ 17) (γ 20) := hS6 _ _ _ _ _ (zAllA hl 20)
  have l21 : sn11 [ρ 17] (γ 20) 0 1 (γ 21) := hS11 _ _ _ _ _ (zAllA hl 21)
  have l22 : sn6 [ρ 0 + 6, ρ 1] (γ 21) 0 (ρ 18) (γ 22) := hS6 _ _ _ _ _ (zAllA hl 22)
  have l23 : sn6 [ρ 0 + 7, ρ 1] (γ 22) 0 (-1) (γ 23) := hS6 _ _ _ _ _ (zAllA hl 23)
  have l24 : sn11 [(-1)] (γ 23) 0 0 (γ 24) := hS11 _ _ _ _ _ (zAllA hl 24)
  have wl_0 : ρ 4 ≠ 45 := by omega
  show sn14 [ρ 0, ρ 1, ρ 2, ρ 3] (γ 0) 0 1 (γ 27)
  have hD : dn14 [] (γ 0) = .inr (0, 1, γ 27) := by
    unfold dn14
    refine zLE m0 (zLE m1 (zLE (show fn6 [ρ 0] (γ 0) = (0, ρ 4, γ 1) from l0.symm) (zLV (γ 1) rfl (zLV (ρ 4) rfl (zIP wl_0 (zLE (show fn6 [ρ 0] (γ 1) = (0, ρ 5, γ 2) from l2.symm) (zLV (γ 2) rfl ?_)))))))
    refine zLV (ρ 5) rfl (zLE (show fn11 [ρ 5] (γ 2) = (0, 1, γ 3) from l3.symm) (zLV (γ 3) rfl (zIP zQ1_ (zLE (show fn6 [ρ 0] (γ 3) = (0, ρ 6, γ 4) from l4.symm) (zLV (γ 4) rfl (zLV (ρ 6) rfl (zLE (show fn6 [ρ 0 + 1] (γ 4) = (0, ρ 7, γ 5) from l5.symm) ?_)))))))
    refine zLV (γ 5) rfl (zIP w_0 (zLV (ρ 7) rfl (zLE (show fn11 [ρ 7] (γ 5) = (0, 1, γ 6) from l6.symm) (zLV (γ 6) rfl (zIP zQ1_ (zLE (show fn6 [ρ 0 + 1] (γ 6) = (0, ρ 8, γ 7) from l7.symm) (zLV (γ 7) rfl ?_)))))))
    refine zLV (ρ 8) rfl (zLE (show fn6 [ρ 0 + 2] (γ 7) = (0, ρ 9, γ 8) from l8.symm) (zLV (γ 8) rfl (zIP w_1 (zLV (ρ 9) rfl (zLE (show fn11 [ρ 9] (γ 8) = (0, 1, γ 9) from l9.symm) (zLV (γ 9) rfl (zIP zQ1_ ?_)))))))
    refine zLE (show fn6 [ρ 0 + 2] (γ 9) = (0, ρ 10, γ 10) from l10.symm) (zLV (γ 10) rfl (zLV (ρ 10) rfl (zLE (show fn6 [ρ 0 + 3] (γ 10) = (0, ρ 11, γ 11) from l11.symm) (zLV (γ 11) rfl (zIP w_2 (zLV (ρ 11) rfl (zLE (show fn11 [ρ 11] (γ 11) = (0, 1, γ 12) from l12.symm) ?_)))))))
    refine zLV (γ 12) rfl (zIP zQ1_ (zLE (show fn6 [ρ 0 + 3] (γ 12) = (0, ρ 12, γ 13) from l13.symm) (zLV (γ 13) rfl (zLV (ρ 12) rfl (zLE (show fn6 [ρ 0 + 4] (γ 13) = (0, ρ 13, γ 14) from l14.symm) (zLV (γ 14) rfl (zIP w_3 ?_)))))))
    refine zLV (ρ 13) rfl (zLE (show fn11 [ρ 13] (γ 14) = (0, 1, γ 15) from l15.symm) (zLV (γ 15) rfl (zIP zQ1_ (zLE (show fn6 [ρ 0 + 4] (γ 15) = (0, ρ 14, γ 16) from l16.symm) (zLV (γ 16) rfl (zLV (ρ 14) rfl (zLE (show fn6 [ρ 0 + 5] (γ 16) = (0, ρ 15, γ 17) from l17.symm) ?_)))))))
    refine zLV (γ 17) rfl (zIP w_4 (zLV (ρ 15) rfl (zLE (show fn11 [ρ 15] (γ 17) = (0, 1, γ 18) from l18.symm) (zLV (γ 18) rfl (zIP zQ1_ (zLE (show fn6 [ρ 0 + 5] (γ 18) = (0, ρ 16, γ 19) from l19.symm) (zLV (γ 19) rfl ?_)))))))
    refine zLV (ρ 16) rfl (zLE (show fn6 [ρ 0 + 6] (γ 19) = (0, ρ 17, γ 20) from l20.symm) (zLV (γ 20) rfl (zIP w_5 (zLV (ρ 17) rfl (zLE (show fn11 [ρ 17] (γ 20) = (0, 1, γ 21) from l21.symm) (zLV (γ 21) rfl (zIP zQ1_ ?_)))))))
    refine zLE (show fn6 [ρ 0 + 6] (γ 21) = (0, ρ 18, γ 22) from l22.symm) (zLV (γ 22) rfl (zLV (ρ 18) rfl (zLE (show fn6 [ρ 0 + 7] (γ 22) = (0, (-1), γ 23) from l23.symm) (zLV (γ 23) rfl (zIN w_6 (zLE (show fn11 [(-1)] (γ 23) = (0, 0, γ 24) from l24.symm) (zLV (γ 24) rfl ?_)))))))
    refine zLE c25.symm (zLE c26.symm (zLE c27.symm ?_))
    rfl
  exact zGoo_end hD
theorem vn14_10 {S : Nat → zSpc} (hS6 : zIm S 6 sn6) (hS8 : zIm S 8 sn8) (hS11 : zIm S 11 sn11) {a : List Int} {g : rHp} : ∀ (ρ : Nat → Int) (γ : Nat → rHp), zO 4 S a g q14_10 ρ γ → zGl (fun i vs g1 => jn14 a g i vs g1) (sn14 a g) q14_10 ρ γ := by
  intro ρ γ h
  obtain ⟨ha, hg, hr, hf, hm, hc, hl⟩ := h
  have ha : a = [ρ 0, ρ 1, ρ 2, ρ 3] := ha
  subst ha
  subst hg
  have r4 : ((-128) : Int) ≤ ρ 4 ∧ ρ 4 ≤ 127 := zRnA hr 4
  have f0 : (0 : Int) ≤ -ρ 1 + ρ 0 + 6 := zAllA hf 0
  have f1 : (0 : Int) ≤ ρ 1 + -ρ 0 + (-6) := zAllA hf 1
  obtain ⟨w_0, w_1, w_2, w_3, w_4, w_5⟩ : (0 ≤ ρ 1 + -ρ 0 + (-2)) ∧ (0 ≤ ρ 1 + -ρ 0 + (-3)) ∧ (0 ≤ ρ 1 + -ρ 0 + (-4)) ∧ (0 ≤ ρ 1 + -ρ 0 + (-5)) ∧ (0 ≤ ρ 1 + -ρ 0 + (-6)) ∧ (¬ (0 ≤ ρ 1 + -ρ 0 + (-7))) := ⟨by omega, by omega, by omega, by omega, by omega, by omega⟩
  have m0 : γ 0 15 0 35 = ρ 0 := zAllA hm 0
  have m1 : γ 0 15 0 34 = ρ 1 := zAllA hm 1
  have c22 : γ 22 = rUp (γ 21) 15 0 35 (ρ 0 + 6) := And.right (zChA hc 2)
  have c23 : γ 23 = rUp (γ 22) 15 0 39 (ρ 16 + (10 * ρ 14 + (100 * ρ 12 + (1000 * ρ 10 + (10000 * ρ 8 + 100000 * ρ 6)))) + (-5333328)) := And.right (zChA hc 1)
  have c24 : γ 24 = rUp (γ 23) 15 0 40 0 := And.right (zChA hc 0)
  have l0 : sn6 [ρ 0, ρ 1] (γ 0) 0 (ρ 4) (γ 1) := hS6 _ _ _ _ _ (zAllA hl 0)
  have l1 : ρ 4 ≠ 45 := zAllA hl 1
  have l2 : sn6 [ρ 0, ρ 1] (γ 1) 0 (ρ 5) (γ 2) := hS6 _ _ _ _ _ (zAllA hl 2)
  have l3 : sn11 [ρ 5] (γ 2) 0 1 (γ 3) := hS11 _ _ _ _ _ (zAllA hl 3)
  have l4 : sn6 [ρ 0, ρ 1] (γ 3) 0 (ρ 6) (γ 4) := hS6 _ _ _ _ _ (zAllA hl 4)
  have l5 : sn6 [ρ 0 + 1, ρ 1] (γ 4) 0 (ρ 7) (γ 5) := hS6 _ _ _ _ _ (zAllA hl 5)
  have l6 : sn11 [ρ 7] (γ 5) 0 1 (γ 6) := hS11 _ _ _ _ _ (zAllA hl 6)
  have l7 : sn6 [ρ 0 + 1, ρ 1] (γ 6) 0 (ρ 8) (γ 7) := hS6 _ _ _ _ _ (zAllA hl 7)
  have l8 : sn6 [ρ 0 + 2, ρ 1] (γ 7) 0 (ρ 9) (γ 8) := hS6 _ _ _ _ _ (zAllA hl 8)
  have l9 : sn11 [ρ 9] (γ 8) 0 1 (γ 9) := hS11 _ _ _ _ _ (zAllA hl 9)
  have l10 : sn6 [ρ 0 + 2, ρ 1] (γ 9) 0 (ρ 10) (γ 10) := hS6 _ _ _ _ _ (zAllA hl 10)
  have l11 : sn6 [ρ 0 + 3, ρ 1] (γ 10) 0 (ρ 11) (γ 11) := hS6 _ _ _ _ _ (zAllA hl 11)
  have l12 : sn11 [ρ 11] (γ 11) 0 1 (γ 12) := hS11 _ _ _ _ _ (zAllA hl 12)
  have l13 : sn6 [ρ 0 + 3, ρ 1] (γ 12) 0 (ρ 12) (γ 13) := hS6 _ _ _ _ _ (zAllA hl 13)
  have l14 : sn6 [ρ 0 + 4, ρ 1] (γ 13) 0 (ρ 13) (γ 14) := hS6 _ _ _ _ _ (zAllA hl 14)
  have l15 : sn11 [ρ 13] (γ 14) 0 1 (γ 15) := hS11 _ _ _ _ _ (zAllA hl 15)
  have l16 : sn6 [ρ 0 + 4, ρ 1] (γ 15) 0 (ρ 14) (γ 16) := hS6 _ _ _ _ _ (zAllA hl 16)
  have l17 : sn6 [ρ 0 + 5, ρ 1] (γ 16) 0 (ρ 15) (γ 17) := hS6 _ _ _ _ _ (zAllA hl 17)
  have l18 : sn11 [ρ 15] (γ 17) 0 1 (γ 18) := hS11 _ _ _ _ _ (zAllA hl 18)
  have l19 : sn6 [ρ 0 + 5, ρ 1] (γ 18) 0 (ρ 16) (γ 19) := hS6 _ _ _ _ _ (zAllA hl 19)
  have l20 : sn6 [ρ 0 + 6, ρ 1] (γ 19) 0 (-1) (γ 20) := hS6 _ _ _ _ _ (zAllA hl 20)
  have l21 : sn11 [(-1)] (γ 20) 0 0 (γ 21) := hS11 _ _ _ _ _ (zAllA hl 21)
  have wl_0 : ρ 4 ≠ 45 := by omega
  show sn14 [ρ 0, ρ 1, ρ 2, ρ 3] (γ 0) 0 1 (γ 24)
  have hD : dn14 [] (γ 0) = .inr (0, 1, γ 24) := by
    unfold dn14
    refine zLE m0 (zLE m1 (zLE (show fn6 [ρ 0] (γ 0) = (0, ρ 4, γ 1) from l0.symm) (zLV (γ 1) rfl (zLV (ρ 4) rfl (zIP wl_0 (zLE (show fn6 [ρ 0] (γ 1) = (0, ρ 5, γ 2) from l2.symm) (zLV (γ 2) rfl ?_)))))))
    refine zLV (ρ 5) rfl (zLE (show fn11 [ρ 5] (γ 2) = (0, 1, γ 3) from l3.symm) (zLV (γ 3) rfl (zIP zQ1_ (zLE (show fn6 [ρ 0] (γ 3) = (0, ρ 6, γ 4) from l4.symm) (zLV (γ 4) rfl (zLV (ρ 6) rfl (zLE (show fn6 [ρ 0 + 1] (γ 4) = (0, ρ 7, γ 5) from l5.symm) ?_)))))))
    refine zLV (γ 5) rfl (zIP w_0 (zLV (ρ 7) rfl (zLE (show fn11 [ρ 7] (γ 5) = (0, 1, γ 6) from l6.symm) (zLV (γ 6) rfl (zIP zQ1_ (zLE (show fn6 [ρ 0 + 1] (γ 6) = (0, ρ 8, γ 7) from l7.symm) (zLV (γ 7) rfl ?_)))))))
    refine zLV (ρ 8) rfl (zLE (show fn6 [ρ 0 + 2] (γ 7) = (0, ρ 9, γ 8) from l8.symm) (zLV (γ 8) rfl (zIP w_1 (zLV (ρ 9) rfl (zLE (show fn11 [ρ 9] (γ 8) = (0, 1, γ 9) from l9.symm) (zLV (γ 9) rfl (zIP zQ1_ ?_)))))))
    refine zLE (show fn6 [ρ 0 + 2] (γ 9) = (0, ρ 10, γ 10) from l10.symm) (zLV (γ 10) rfl (zLV (ρ 10) rfl (zLE (show fn6 [ρ 0 + 3] (γ 10) = (0, ρ 11, γ 11) from l11.symm) (zLV (γ 11) rfl (zIP w_2 (zLV (ρ 11) rfl (zLE (show fn11 [ρ 11] (γ 11) = (0, 1, γ 12) from l12.symm) ?_)))))))
    refine zLV (γ 12) rfl (zIP zQ1_ (zLE (show fn6 [ρ 0 + 3] (γ 12) = (0, ρ 12, γ 13) from l13.symm) (zLV (γ 13) rfl (zLV (ρ 12) rfl (zLE (show fn6 [ρ 0 + 4] (γ 13) = (0, ρ 13, γ 14) from l14.symm) (zLV (γ 14) rfl (zIP w_3 ?_)))))))
    refine zLV (ρ 13) rfl (zLE (show fn11 [ρ 13] (γ 14) = (0, 1, γ 15) from l15.symm) (zLV (γ 15) rfl (zIP zQ1_ (zLE (show fn6 [ρ 0 + 4] (γ 15) = (0, ρ 14, γ 16) from l16.symm) (zLV (γ 16) rfl (zLV (ρ 14) rfl (zLE (show fn6 [ρ 0 + 5] (γ 16) = (0, ρ 15, γ 17) from l17.symm) ?_)))))))
    refine zLV (γ 17) rfl (zIP w_4 (zLV (ρ 15) rfl (zLE (show fn11 [ρ 15] (γ 17) = (0, 1, γ 18) from l18.symm) (zLV (γ 18) rfl (zIP zQ1_ (zLE (show fn6 [ρ 0 + 5] (γ 18) = (0, ρ 16, γ 19) from l19.symm) (zLV (γ 19) rfl ?_)))))))
    refine zLV (ρ 16) rfl (zLE (show fn6 [ρ 0 + 6] (γ 19) = (0, (-1), γ 20) from l20.symm) (zLV (γ 20) rfl (zIN w_5 (zLE (show fn11 [(-1)] (γ 20) = (0, 0, γ 21) from l21.symm) (zLV (γ 21) rfl (zLE c22.symm (zLE c23.symm ?_)))))))
    refine zLE c24.symm ?_
    rfl
  exact zGoo_end hD
theorem vn14_11 {S : Nat → zSpc} (hS6 : zIm S 6 sn6) (hS8 : zIm S 8 sn8) (hS11 : zIm S 11 sn11) {a : List Int} {g : rHp} : ∀ (ρ : Nat → Int) (γ : Nat → rHp), zO 4 S a g q14_11 ρ γ → zGl (fun i vs g1 => jn14 a g i vs g1) (sn14 a g) q14_11 ρ γ := by
  intro ρ γ h
  obtain ⟨ha, hg, hr, hf, hm, hc, hl⟩ := h
  have ha : a = [ρ 0, ρ 1, ρ 2, ρ 3] := ha
  subst ha
  subst hg
  have r4 : ((-128) : Int) ≤ ρ 4 ∧ ρ 4 ≤ 127 := zRnA hr 4
  have f0 : (0 : Int) ≤ -ρ 1 + ρ 0 + 5 := zAllA hf 0
  have f1 : (0 : Int) ≤ ρ 1 + -ρ 0 + (-5) := zAllA hf 1
  obtain ⟨w_0, w_1, w_2, w_3, w_4⟩ : (0 ≤ ρ 1 + -ρ 0 + (-2)) ∧ (0 ≤ ρ 1 + -ρ 0 + (-3)) ∧ (0 ≤ ρ 1 + -ρ 0 + (-4)) ∧ (0 ≤ ρ 1 + -ρ 0 + (-5)) ∧ (¬ (0 ≤ ρ 1 + -ρ 0 + (-6))) := ⟨by omega, by omega, by omega, by omega, by omega⟩
  have m0 : γ 0 15 0 35 = ρ 0 := zAllA hm 0
  have m1 : γ 0 15 0 34 = ρ 1 := zAllA hm 1
  have c19 : γ 19 = rUp (γ 18) 15 0 35 (ρ 0 + 5) := And.right (zChA hc 2)
  have c20 : γ 20 = rUp (γ 19) 15 0 39 (ρ 14 + (10 * ρ 12 + (100 * ρ 10 + (1000 * ρ 8 + 10000 * ρ 6))) + (-533328)) := And.right (zChA hc 1)
  have c21 : γ 21 = rUp (γ 20) 15 0 40 0 := And.right (zChA hc 0)
  have l0 : sn6 [ρ 0, ρ 1] (γ 0) 0 (ρ 4) (γ 1) := hS6 _ _ _ _ _ (zAllA hl 0)
  have l1 : ρ 4 ≠ 45 := zAllA hl 1
  have l2 : sn6 [ρ 0, ρ 1] (γ 1) 0 (ρ 5) (γ 2) := hS6 _ _ _ _ _ (zAllA hl 2)
  have l3 : sn11 [ρ 5] (γ 2) 0 1 (γ 3) := hS11 _ _ _ _ _ (zAllA hl 3)
  have l4 : sn6 [ρ 0, ρ 1] (γ 3) 0 (ρ 6) (γ 4) := hS6 _ _ _ _ _ (zAllA hl 4)
  have l5 : sn6 [ρ 0 + 1, ρ 1] (γ 4) 0 (ρ 7) (γ 5) := hS6 _ _ _ _ _ (zAllA hl 5)
  have l6 : sn11 [ρ 7] (γ 5) 0 1 (γ 6) := hS11 _ _ _ _ _ (zAllA hl 6)
  have l7 : sn6 [ρ 0 + 1, ρ 1] (γ 6) 0 (ρ 8) (γ 7) := hS6 _ _ _ _ _ (zAllA hl 7)
  have l8 : sn6 [ρ 0 + 2, ρ 1] (γ 7) 0 (ρ 9) (γ 8) := hS6 _ _ _ _ _ (zAllA hl 8)
  have l9 : sn11 [ρ 9] (γ 8) 0 1 (γ 9) := hS11 _ _ _ _ _ (zAllA hl 9)
  have l10 : sn6 [ρ 0 + 2, ρ 1] (γ 9) 0 (ρ 10) (γ 10) := hS6 _ _ _ _ _ (zAllA hl 10)
  have l11 : sn6 [ρ 0 + 3, ρ 1] (γ 10) 0 (ρ 11) (γ 11) := hS6 _ _ _ _ _ (zAllA hl 11)
  have l12 : sn11 [ρ 11] (γ 11) 0 1 (γ 12) := hS11 _ _ _ _ _ (zAllA hl 12)
  have l13 : sn6 [ρ 0 + 3, ρ 1] (γ 12) 0 (ρ 12) (γ 13) := hS6 _ _ _ _ _ (zAllA hl 13)
  have l14 : sn6 [ρ 0 + 4, ρ 1] (γ 13) 0 (ρ 13) (γ 14) := hS6 _ _ _ _ _ (zAllA hl 14)
  have l15 : sn11 [ρ 13] (γ 14) 0 1 (γ 15) := hS11 _ _ _ _ _ (zAllA hl 15)
  have l16 : sn6 [ρ 0 + 4, ρ 1] (γ 15) 0 (ρ 14) (γ 16) := hS6 _ _ _ _ _ (zAllA hl 16)
  have l17 : sn6 [ρ 0 + 5, ρ 1] (γ 16) 0 (-1) (γ 17) := hS6 _ _ _ _ _ (zAllA hl 17)
  have l18 : sn11 [(-1)] (γ 17) 0 0 (γ 18) := hS11 _ _ _ _ _ (zAllA hl 18)
  have wl_0 : ρ 4 ≠ 45 := by omega
  show sn14 [ρ 0, ρ 1, ρ 2, ρ 3] (γ 0) 0 1 (γ 21)
  have hD : dn14 [] (γ 0) = .inr (0, 1, γ 21) := by
    unfold dn14
    refine zLE m0 (zLE m1 (zLE (show fn6 [ρ 0] (γ 0) = (0, ρ 4, γ 1) from l0.symm) (zLV (γ 1) rfl (zLV (ρ 4) rfl (zIP wl_0 (zLE (show fn6 [ρ 0] (γ 1) = (0, ρ 5, γ 2) from l2.symm) (zLV (γ 2) rfl ?_)))))))
    refine zLV (ρ 5) rfl (zLE (show fn11 [ρ 5] (γ 2) = (0, 1, γ 3) from l3.symm) (zLV (γ 3) rfl (zIP zQ1_ (zLE (show fn6 [ρ 0] (γ 3) = (0, ρ 6, γ 4) from l4.symm) (zLV (γ 4) rfl (zLV (ρ 6) rfl (zLE (show fn6 [ρ 0 + 1] (γ 4) = (0, ρ 7, γ 5) from l5.symm) ?_)))))))
    refine zLV (γ 5) rfl (zIP w_0 (zLV (ρ 7) rfl (zLE (show fn11 [ρ 7] (γ 5) = (0, 1, γ 6) from l6.symm) (zLV (γ 6) rfl (zIP zQ1_ (zLE (show fn6 [ρ 0 + 1] (γ 6) = (0, ρ 8, γ 7) from l7.symm) (zLV (γ 7) rfl ?_)))))))
    refine zLV (ρ 8) rfl (zLE (show fn6 [ρ 0 + 2] (γ 7) = (0, ρ 9, γ 8) from l8.symm) (zLV (γ 8) rfl (zIP w_1 (zLV (ρ 9) rfl (zLE (show fn11 [ρ 9] (γ 8) = (0, 1, γ 9) from l9.symm) (zLV (γ 9) rfl (zIP zQ1_ ?_)))))))
    refine zLE (show fn6 [ρ 0 + 2] (γ 9) = (0, ρ 10, γ 10) from l10.symm) (zLV (γ 10) rfl (zLV (ρ 10) rfl (zLE (show fn6 [ρ 0 + 3] (γ 10) = (0, ρ 11, γ 11) from l11.symm) (zLV (γ 11) rfl (zIP w_2 (zLV (ρ 11) rfl (zLE (show fn11 [ρ 11] (γ 11) = (0, 1, γ 12) from l12.symm) ?_)))))))
    refine zLV (γ 12) rfl (zIP zQ1_ (zLE (show fn6 [ρ 0 + 3] (γ 12) = (0, ρ 12, γ 13) from l13.symm) (zLV (γ 13) rfl (zLV (ρ 12) rfl (zLE (show fn6 [ρ 0 + 4] (γ 13) = (0, ρ 13, γ 14) from l14.symm) (zLV (γ 14) rfl (zIP w_3 ?_)))))))
    refine zLV (ρ 13) rfl (zLE (show fn11 [ρ 13] (γ 14) = (0, 1, γ 15) from l15.symm) (zLV (γ 15) rfl (zIP zQ1_ (zLE (show fn6 [ρ 0 + 4] (γ 15) = (0, ρ 14, γ 16) from l16.symm) (zLV (γ 16) rfl (zLV (ρ 14) rfl (zLE (show fn6 [ρ 0 + 5] (γ 16) = (0, (-1), γ 17) from l17.symm) ?_)))))))
    refine zLV (γ 17) rfl (zIN w_4 (zLE (show fn11 [(-1)] (γ 17) = (0, 0, γ 18) from l18.symm) (zLV (γ 18) rfl (zLE c19.symm (zLE c20.symm (zLE c21.symm ?_))))))
    rfl
  exact zGoo_end hD
theorem vn14_12 {S : Nat → zSpc} (hS6 : zIm S 6 sn6) (hS8 : zIm S 8 sn8) (hS11 : zIm S 11 sn11) {a : List Int} {g : rHp} : ∀ (ρ : Nat → Int) (γ : Nat → rHp), zO 4 S a g q14_12 ρ γ → zGl (fun i vs g1 => jn14 a g i vs g1) (sn14 a g) q14_12 ρ γ := by
  intro ρ γ h
  obtain ⟨ha, hg, hr, hf, hm, hc, hl⟩ := h
  have ha : a = [ρ 0, ρ 1, ρ 2, ρ 3] := ha
  subst ha
  subst hg
  have r4 : ((-128) : Int) ≤ ρ 4 ∧ ρ 4 ≤ 127 := zRnA hr 4
  have f0 : (0 : Int) ≤ -ρ 1 + ρ 0 + 4 := zAllA hf 0
  have f1 : (0 : Int) ≤ ρ 1 + -ρ 0 + (-4) := zAllA hf 1
  obtain ⟨w_0, w_1, w_2, w_3⟩ : (0 ≤ ρ 1 + -ρ 0 + (-2)) ∧ (0 ≤ ρ 1 + -ρ 0 + (-3)) ∧ (0 ≤ ρ 1 + -ρ 0 + (-4)) ∧ (¬ (0 ≤ ρ 1 + -ρ 0 + (-5))) := ⟨by omega, by omega, by omega, by omega⟩
  have m0 : γ 0 15 0 35 = ρ 0 := zAllA hm 0
  have m1 : γ 0 15 0 34 = ρ 1 := zAllA hm 1
  have c16 : γ 16 = rUp (γ 15) 15 0 35 (ρ 0 + 4) := And.right (zChA hc 2)
  have c17 : γ 17 = rUp (γ 16) 15 0 39 (ρ 12 + (10 * ρ 10 + (100 * ρ 8 + 1000 * ρ 6)) + (-53328)) := And.right (zChA hc 1)
  have c18 : γ 18 = rUp (γ 17) 15 0 40 0 := And.right (zChA hc 0)
  have l0 : sn6 [ρ 0, ρ 1] (γ 0) 0 (ρ 4) (γ 1) := hS6 _ _ _ _ _ (zAllA hl 0)
  have l1 : ρ 4 ≠ 45 := zAllA hl 1
  have l2 : sn6 [ρ 0, ρ 1] (γ 1) 0 (ρ 5) (γ 2) := hS6 _ _ _ _ _ (zAllA hl 2)
  have l3 : sn11 [ρ 5] (γ 2) 0 1 (γ 3) := hS11 _ _ _ _ _ (zAllA hl 3)
  have l4 : sn6 [ρ 0, ρ 1] (γ 3) 0 (ρ 6) (γ 4) := hS6 _ _ _ _ _ (zAllA hl 4)
  have l5 : sn6 [ρ 0 + 1, ρ 1] (γ 4) 0 (ρ 7) (γ 5) := hS6 _ _ _ _ _ (zAllA hl 5)
  have l6 : sn11 [ρ 7] (γ 5) 0 1 (γ 6) := hS11 _ _ _ _ _ (zAllA hl 6)
  have l7 : sn6 [ρ 0 + 1, ρ 1] (γ 6) 0 (ρ 8) (γ 7) := hS6 _ _ _ _ _ (zAllA hl 7)
  have l8 : sn6 [ρ 0 + 2, ρ 1] (γ 7) 0 (ρ 9) (γ 8) := hS6 _ _ _ _ _ (zAllA hl 8)
  have l9 : sn11 [ρ 9] (γ 8) 0 1 (γ 9) := hS11 _ _ _ _ _ (zAllA hl 9)
  have l10 : sn6 [ρ 0 + 2, ρ 1] (γ 9) 0 (ρ 10) (γ 10) := hS6 _ _ _ _ _ (zAllA hl 10)
  have l11 : sn6 [ρ 0 + 3, ρ 1] (γ 10) 0 (ρ 11) (γ 11) := hS6 _ _ _ _ _ (zAllA hl 11)
  have l12 : sn11 [ρ 11] (γ 11) 0 1 (γ 12) := hS11 _ _ _ _ _ (zAllA hl 12)
  have l13 : sn6 [ρ 0 + 3, ρ 1] (γ 12) 0 (ρ 12) (γ 13) := hS6 _ _ _ _ _ (zAllA hl 13)
  have l14 : sn6 [ρ 0 + 4, ρ 1] (γ 13) 0 (-1) (γ 14) := hS6 _ _ _ _ _ (zAllA hl 14)
  have l15 : sn11 [(-1)] (γ 14) 0 0 (γ 15) := hS11 _ _ _ _ _ (zAllA hl 15)
  have wl_0 : ρ 4 ≠ 45 := by omega
  show sn14 [ρ 0, ρ 1, ρ 2, ρ 3] (γ 0) 0 1 (γ 18)
  have hD : dn14 [] (γ 0) = .inr (0, 1, γ 18) := by
    unfold dn14
    refine zLE m0 (zLE m1 (zLE (show fn6 [ρ 0] (γ 0) = (0, ρ 4, γ 1) from l0.symm) (zLV (γ 1) rfl (zLV (ρ 4) rfl (zIP wl_0 (zLE (show fn6 [ρ 0] (γ 1) = (0, ρ 5, γ 2) from l2.symm) (zLV (γ 2) rfl ?_)))))))
    refine zLV (ρ 5) rfl (zLE (show fn11 [ρ 5] (γ 2) = (0, 1, γ 3) from l3.symm) (zLV (γ 3) rfl (zIP zQ1_ (zLE (show fn6 [ρ 0] (γ 3) = (0, ρ 6, γ 4) from l4.symm) (zLV (γ 4) rfl (zLV (ρ 6) rfl (zLE (show fn6 [ρ 0 + 1] (γ 4) = (0, ρ 7, γ 5) from l5.symm) ?_)))))))
    refine zLV (γ 5) rfl (zIP w_0 (zLV (ρ 7) rfl (zLE (show fn11 [ρ 7] (γ 5) = (0, 1, γ 6) from l6.symm) (zLV (γ 6) rfl (zIP zQ1_ (zLE (show fn6 [ρ 0 + 1] (γ 6) = (0, ρ 8, γ 7) from l7.symm) (zLV (γ 7) rfl ?_)))))))
    refine zLV (ρ 8) rfl (zLE (show fn6 [ρ 0 + 2] (γ 7) = (0, ρ 9, γ 8) from l8.symm) (zLV (γ 8) rfl (zIP w_1 (zLV (ρ 9) rfl (zLE (show fn11 [ρ 9] (γ 8) = (0, 1, γ 9) from l9.symm) (zLV (γ 9) rfl (zIP zQ1_ ?_)))))))
    refine zLE (show fn6 [ρ 0 + 2] (γ 9) = (0, ρ 10, γ 10) from l10.symm) (zLV (γ 10) rfl (zLV (ρ 10) rfl (zLE (show fn6 [ρ 0 + 3] (γ 10) = (0, ρ 11, γ 11) from l11.symm) (zLV (γ 11) rfl (zIP w_2 (zLV (ρ 11) rfl (zLE (show fn11 [ρ 11] (γ 11) = (0, 1, γ 12) from l12.symm) ?_)))))))
    refine zLV (γ 12) rfl (zIP zQ1_ (zLE (show fn6 [ρ 0 + 3] (γ 12) = (0, ρ 12, γ 13) from l13.symm) (zLV (γ 13) rfl (zLV (ρ 12) rfl (zLE (show fn6 [ρ 0 + 4] (γ 13) = (0, (-1), γ 14) from l14.symm) (zLV (γ 14) rfl (zIN w_3 ?_)))))))
    refine zLE (show fn11 [(-1)] (γ 14) = (0, 0, γ 15) from l15.symm) (zLV (γ 15) rfl (zLE c16.symm (zLE c17.symm (zLE c18.symm ?_))))
    rfl
  exact zGoo_end hD
theorem vn14_13 {S : Nat → zSpc} (hS6 : zIm S 6 sn6) (hS8 : zIm S 8 sn8) (hS11 : zIm S 11 sn11) {a : List Int} {g : rHp} : ∀ (ρ : Nat → Int) (γ : Nat → rHp), zO 4 S a g q14_13 ρ γ → zGl (fun i vs g1 => jn14 a g i vs g1) (sn14 a g) q14_13 ρ γ := by
  intro ρ γ h
  obtain ⟨ha, hg, hr, hf, hm, hc, hl⟩ := h
  have ha : a = [ρ 0, ρ 1, ρ 2, ρ 3] := ha
  subst ha
  subst hg
  have r4 : ((-128) : Int) ≤ ρ 4 ∧ ρ 4 ≤ 127 := zRnA hr 4
  have f0 : (0 : Int) ≤ -ρ 1 + ρ 0 + 3 := zAllA hf 0
  have f1 : (0 : Int) ≤ ρ 1 + -ρ 0 + (-3) := zAllA hf 1
  obtain ⟨w_0, w_1, w_2⟩ : (0 ≤ ρ 1 + -ρ 0 + (-2)) ∧ (0 ≤ ρ 1 + -ρ 0 + (-3)) ∧ (¬ (0 ≤ ρ 1 + -ρ 0 + (-4))) := ⟨by omega, by omega, by omega⟩
  have m0 : γ 0 15 0 35 = ρ 0 := zAllA hm 0
  have m1 : γ 0 15 0 34 = ρ 1 := zAllA hm 1
  have c13 : γ 13 = rUp (γ 12) 15 0 35 (ρ 0 + 3) := And.right (zChA hc 2)
  have c14 : γ 14 = rUp (γ 13) 15 0 39 (ρ 10 + (10 * ρ 8 + 100 * ρ 6) + (-5328)) := And.right (zChA hc 1)
  have c15 : γ 15 = rUp (γ 14) 15 0 40 0 := And.right (zChA hc 0)
  have l0 : sn6 [ρ 0, ρ 1] (γ 0) 0 (ρ 4) (γ 1) := hS6 _ _ _ _ _ (zAllA hl 0)
  have l1 : ρ 4 ≠ 45 := zAllA hl 1
  have l2 : sn6 [ρ 0, ρ 1] (γ 1) 0 (ρ 5) (γ 2) := hS6 _ _ _ _ _ (zAllA hl 2)
  have l3 : sn11 [ρ 5] (γ 2) 0 1 (γ 3) := hS11 _ _ _ _ _ (zAllA hl 3)
  have l4 : sn6 [ρ 0, ρ 1] (γ 3) 0 (ρ 6) (γ 4) := hS6 _ _ _ _ _ (zAllA hl 4)
  have l5 : sn6 [ρ 0 + 1, ρ 1] (γ 4) 0 (ρ 7) (γ 5) := hS6 _ _ _ _ _ (zAllA hl 5)
  have l6 : sn11 [ρ 7] (γ 5) 0 1 (γ 6) := hS11 _ _ _ _ _ (zAllA hl 6)
  have l7 : sn6 [ρ 0 + 1, ρ 1] (γ 6) 0 (ρ 8) (γ 7) := hS6 _ _ _ _ _ (zAllA hl 7)
  have l8 : sn6 [ρ 0 + 2, ρ 1] (γ 7) 0 (ρ 9) (γ 8) := hS6 _ _ _ _ _ (zAllA hl 8)
  have l9 : sn11 [ρ 9] (γ 8) 0 1 (γ 9) := hS11 _ _ _ _ _ (zAllA hl 9)
  have l10 : sn6 [ρ 0 + 2, ρ 1] (γ 9) 0 (ρ 10) (γ 10) := hS6 _ _ _ _ _ (zAllA hl 10)
  have l11 : sn6 [ρ 0 + 3, ρ 1] (γ 10) 0 (-1) (γ 11) := hS6 _ _ _ _ _ (zAllA hl 11)
  have l12 : sn11 [(-1)] (γ 11) 0 0 (γ 12) := hS11 _ _ _ _ _ (zAllA hl 12)
  have wl_0 : ρ 4 ≠ 45 := by omega
  show sn14 [ρ 0, ρ 1, ρ 2, ρ 3] (γ 0) 0 1 (γ 15)
  have hD : dn14 [] (γ 0) = .inr (0, 1, γ 15) := by
    unfold dn14
    refine zLE m0 (zLE m1 (zLE (show fn6 [ρ 0] (γ 0) = (0, ρ 4, γ 1) from l0.symm) (zLV (γ 1) rfl (zLV (ρ 4) rfl (zIP wl_0 (zLE (show fn6 [ρ 0] (γ 1) = (0, ρ 5, γ 2) from l2.symm) (zLV (γ 2) rfl ?_)))))))
    refine zLV (ρ 5) rfl (zLE (show fn11 [ρ 5] (γ 2) = (0, 1, γ 3) from l3.symm) (zLV (γ 3) rfl (zIP zQ1_ (zLE (show fn6 [ρ 0] (γ 3) = (0, ρ 6, γ 4) from l4.symm) (zLV (γ 4) rfl (zLV (ρ 6) rfl (zLE (show fn6 [ρ 0 + 1] (γ 4) = (0, ρ 7, γ 5) from l5.symm) ?_)))))))
    refine zLV (γ 5) rfl (zIP w_0 (zLV (ρ 7) rfl (zLE (show fn11 [ρ 7] (γ 5) = (0, 1, γ 6) from l6.symm) (zLV (γ 6) rfl (zIP zQ1_ (zLE (show fn6 [ρ 0 + 1] (γ 6) = (0, ρ 8, γ 7) from l7.symm) (zLV (γ 7) rfl ?_)))))))
    refine zLV (ρ 8) rfl (zLE (show fn6 [ρ 0 + 2] (γ 7) = (0, ρ 9, γ 8) from l8.symm) (zLV (γ 8) rfl (zIP w_1 (zLV (ρ 9) rfl (zLE (show fn11 [ρ 9] (γ 8) = (0, 1, γ 9) from l9.symm) (zLV (γ 9) rfl (zIP zQ1_ ?_)))))))
    refine zLE (show fn6 [ρ 0 + 2] (γ 9) = (0, ρ 10, γ 10) from l10.symm) (zLV (γ 10) rfl (zLV (ρ 10) rfl (zLE (show fn6 [ρ 0 + 3] (γ 10) = (0, (-1), γ 11) from l11.symm) (zLV (γ 11) rfl (zIN w_2 (zLE (show fn11 [(-1)] (γ 11) = (0, 0, γ 12) from l12.symm) (zLV (γ 12) rfl ?_)))))))
    refine zLE c13.symm (zLE c14.symm (zLE c15.symm ?_))
    rfl
  exact zGoo_end hD
theorem vn14_14 {S : Nat → zSpc} (hS6 : zIm S 6 sn6) (hS8 : zIm S 8 sn8) (hS11 : zIm S 11 sn11) {a : List Int} {g : rHp} : ∀ (ρ : Nat → Int) (γ : Nat → rHp), zO 4 S a g q14_14 ρ γ → zGl (fun i vs g1 => jn14 a g i vs g1) (sn14 a g) q14_14 ρ γ := by
  intro ρ γ h
  obtain ⟨ha, hg, hr, hf, hm, hc, hl⟩ := h
  have ha : a = [ρ 0, ρ 1, ρ 2, ρ 3] := ha
  subst ha
  subst hg
  have r4 : ((-128) : Int) ≤ ρ 4 ∧ ρ 4 ≤ 127 := zRnA hr 4
  have f0 : (0 : Int) ≤ -ρ 1 + ρ 0 + 2 := zAllA hf 0
  have f1 : (0 : Int) ≤ ρ 1 + -ρ 0 + (-2) := zAllA hf 1
  obtain ⟨w_0, w_1⟩ : (0 ≤ ρ 1 + -ρ 0 + (-2)) ∧ (¬ (0 ≤ ρ 1 + -ρ 0 + (-3))) := ⟨by omega, by omega⟩
  have m0 : γ 0 15 0 35 = ρ 0 := zAllA hm 0
  have m1 : γ 0 15 0 34 = ρ 1 := zAllA hm 1
  have c10 : γ 10 = rUp (γ 9) 15 0 35 (ρ 0 + 2) := And.right (zChA hc 2)
  have c11 : γ 11 = rUp (γ 10) 15 0 39 (ρ 8 + 10 * ρ 6 + (-528)) := And.right (zChA hc 1)
  have c12 : γ 12 = rUp (γ 11) 15 0 40 0 := And.right (zChA hc 0)
  have l0 : sn6 [ρ 0, ρ 1] (γ 0) 0 (ρ 4) (γ 1) := hS6 _ _ _ _ _ (zAllA hl 0)
  have l1 : ρ 4 ≠ 45 := zAllA hl 1
  have l2 : sn6 [ρ 0, ρ 1] (γ 1) 0 (ρ 5) (γ 2) := hS6 _ _ _ _ _ (zAllA hl 2)
  have l3 : sn11 [ρ 5] (γ 2) 0 1 (γ 3) := hS11 _ _ _ _ _ (zAllA hl 3)
  have l4 : sn6 [ρ 0, ρ 1] (γ 3) 0 (ρ 6) (γ 4) := hS6 _ _ _ _ _ (zAllA hl 4)
  have l5 : sn6 [ρ 0 + 1, ρ 1] (γ 4) 0 (ρ 7) (γ 5) := hS6 _ _ _ _ _ (zAllA hl 5)
  have l6 : sn11 [ρ 7] (γ 5) 0 1 (γ 6) := hS11 _ _ _ _ _ (zAllA hl 6)
  have l7 : sn6 [ρ 0 + 1, ρ 1] (γ 6) 0 (ρ 8) (γ 7) := hS6 _ _ _ _ _ (zAllA hl 7)
  have l8 : sn6 [ρ 0 + 2, ρ 1] (γ 7) 0 (-1) (γ 8) := hS6 _ _ _ _ _ (zAllA hl 8)
  have l9 : sn11 [(-1)] (γ 8) 0 0 (γ 9) := hS11 _ _ _ _ _ (zAllA hl 9)
  have wl_0 : ρ 4 ≠ 45 := by omega
  show sn14 [ρ 0, ρ 1, ρ 2, ρ 3] (γ 0) 0 1 (γ 12)
  have hD : dn14 [] (γ 0) = .inr (0, 1, γ 12) := by
    unfold dn14
    refine zLE m0 (zLE m1 (zLE (show fn6 [ρ 0] (γ 0) = (0, ρ 4, γ 1) from l0.symm) (zLV (γ 1) rfl (zLV (ρ 4) rfl (zIP wl_0 (zLE (show fn6 [ρ 0] (γ 1) = (0, ρ 5, γ 2) from l2.symm) (zLV (γ 2) rfl ?_)))))))
    refine zLV (ρ 5) rfl (zLE (show fn11 [ρ 5] (γ 2) = (0, 1, γ 3) from l3.symm) (zLV (γ 3) rfl (zIP zQ1_ (zLE (show fn6 [ρ 0] (γ 3) = (0, ρ 6, γ 4) from l4.symm) (zLV (γ 4) rfl (zLV (ρ 6) rfl (zLE (show fn6 [ρ 0 + 1] (γ 4) = (0, ρ 7, γ 5) from l5.symm) ?_)))))))
    refine zLV (γ 5) rfl (zIP w_0 (zLV (ρ 7) rfl (zLE (show fn11 [ρ 7] (γ 5) = (0, 1, γ 6) from l6.symm) (zLV (γ 6) rfl (zIP zQ1_ (zLE (show fn6 [ρ 0 + 1] (γ 6) = (0, ρ 8, γ 7) from l7.symm) (zLV (γ 7) rfl ?_)))))))
    refine zLV (ρ 8) rfl (zLE (show fn6 [ρ 0 + 2] (γ 7) = (0, (-1), γ 8) from l8.symm) (zLV (γ 8) rfl (zIN w_1 (zLE (show fn11 [(-1)] (γ 8) = (0, 0, γ 9) from l9.symm) (zLV (γ 9) rfl (zLE c10.symm (zLE c11.symm ?_)))))))
    refine zLE c12.symm ?_
    rfl
  exact zGoo_end hD
theorem vn14_15 {S : Nat → zSpc} (hS6 : zIm S 6 sn6) (hS8 : zIm S 8 sn8) (hS11 : zIm S 11 sn11) {a : List Int} {g : rHp} : ∀ (ρ : Nat → Int) (γ : Nat → rHp), zO 4 S a g q14_15 ρ γ → zGl (fun i vs g1 => jn14 a g i vs g1) (sn14 a g) q14_15 ρ γ := by
  intro ρ γ h
  obtain ⟨ha, hg, hr, hf, hm, hc, hl⟩ := h
  have ha : a = [ρ 0, ρ 1, ρ 2, ρ 3] := ha
  subst ha
  subst hg
  have r4 : ((-128) : Int) ≤ ρ 4 ∧ ρ 4 ≤ 127 := zRnA hr 4
  have f0 : (0 : Int) ≤ -ρ 1 + ρ 0 + 1 := zAllA hf 0
  have w_0 : ¬ (0 ≤ ρ 1 + -ρ 0 + (-2)) := by omega
  have m0 : γ 0 15 0 35 = ρ 0 := zAllA hm 0
  have m1 : γ 0 15 0 34 = ρ 1 := zAllA hm 1
  have c7 : γ 7 = rUp (γ 6) 15 0 35 (ρ 0 + 1) := And.right (zChA hc 2)
  have c8 : γ 8 = rUp (γ 7) 15 0 39 (ρ 6 + (-48)) := And.right (zChA hc 1)
  have c9 : γ 9 = rUp (γ 8) 15 0 40 0 := And.right (zChA hc 0)
  have l0 : sn6 [ρ 0, ρ 1] (γ 0) 0 (ρ 4) (γ 1) := hS6 _ _ _ _ _ (zAllA hl 0)
  have l1 : ρ 4 ≠ 45 := zAllA hl 1
  have l2 : sn6 [ρ 0, ρ 1] (γ 1) 0 (ρ 5) (γ 2) := hS6 _ _ _ _ _ (zAllA hl 2)
  have l3 : sn11 [ρ 5] (γ 2) 0 1 (γ 3) := hS11 _ _ _ _ _ (zAllA hl 3)
  have l4 : sn6 [ρ 0, ρ 1] (γ 3) 0 (ρ 6) (γ 4) := hS6 _ _ _ _ _ (zAllA hl 4)
  have l5 : sn6 [ρ 0 + 1, ρ 1] (γ 4) 0 (-1) (γ 5) := hS6 _ _ _ _ _ (zAllA hl 5)
  have l6 : sn11 [(-1)] (γ 5) 0 0 (γ 6) := hS11 _ _ _ _ _ (zAllA hl 6)
  have wl_0 : ρ 4 ≠ 45 := by omega
  show sn14 [ρ 0, ρ 1, ρ 2, ρ 3] (γ 0) 0 1 (γ 9)
  have hD : dn14 [] (γ 0) = .inr (0, 1, γ 9) := by
    unfold dn14
    refine zLE m0 (zLE m1 (zLE (show fn6 [ρ 0] (γ 0) = (0, ρ 4, γ 1) from l0.symm) (zLV (γ 1) rfl (zLV (ρ 4) rfl (zIP wl_0 (zLE (show fn6 [ρ 0] (γ 1) = (0, ρ 5, γ 2) from l2.symm) (zLV (γ 2) rfl ?_)))))))
    refine zLV (ρ 5) rfl (zLE (show fn11 [ρ 5] (γ 2) = (0, 1, γ 3) from l3.symm) (zLV (γ 3) rfl (zIP zQ1_ (zLE (show fn6 [ρ 0] (γ 3) = (0, ρ 6, γ 4) from l4.symm) (zLV (γ 4) rfl (zLV (ρ 6) rfl (zLE (show fn6 [ρ 0 + 1] (γ 4) = (0, (-1), γ 5) from l5.symm) ?_)))))))
    refine zLV (γ 5) rfl (zIN w_0 (zLE (show fn11 [(-1)] (γ 5) = (0, 0, γ 6) from l6.symm) (zLV (γ 6) rfl (zLE c7.symm (zLE c8.symm (zLE c9.symm ?_))))))
    rfl
  exact zGoo_end hD
theorem vn14_16 {S : Nat → zSpc} (hS6 : zIm S 6 sn6) (hS8 : zIm S 8 sn8) (hS11 : zIm S 11 sn11) {a : List Int} {g : rHp} : ∀ (ρ : Nat → Int) (γ : Nat → rHp), zO 4 S a g q14_16 ρ γ → zGl (fun i vs g1 => jn14 a g i vs g1) (sn14 a g) q14_16 ρ γ := by
  intro ρ γ h
  obtain ⟨ha, hg, hr, hf, hm, hc, hl⟩ := h
  have ha : a = [ρ 0, ρ 1, ρ 2, ρ 3] := ha
  subst ha
  subst hg
  have r4 : (45 : Int) ≤ ρ 4 ∧ ρ 4 ≤ 45 := zRnA hr 4
  have f2 : (0 : Int) ≤ ρ 1 + -ρ 0 + (-2) := zAllA hf 2
  obtain ⟨w_0, w_1⟩ : (¬ (ρ 4 ≠ 45)) ∧ (0 ≤ ρ 1 + -ρ 0 + (-2)) := ⟨by omega, by omega⟩
  have m0 : γ 0 15 0 35 = ρ 0 := zAllA hm 0
  have m1 : γ 0 15 0 34 = ρ 1 := zAllA hm 1
  have l0 : sn6 [ρ 0, ρ 1] (γ 0) 0 (ρ 4) (γ 1) := hS6 _ _ _ _ _ (zAllA hl 0)
  have l1 : sn6 [ρ 0 + 1, ρ 1] (γ 1) 0 (ρ 5) (γ 2) := hS6 _ _ _ _ _ (zAllA hl 1)
  have l2 : sn11 [ρ 5] (γ 2) 0 0 (γ 3) := hS11 _ _ _ _ _ (zAllA hl 2)
  have l3 : sn8 [ρ 0, ρ 1, ρ 2] (γ 3) 0 0 (γ 4) := hS8 _ _ _ _ _ (zAllA hl 3)
  show sn14 [ρ 0, ρ 1, ρ 2, ρ 3] (γ 0) 0 0 (γ 4)
  have hD : dn14 [] (γ 0) = .inr (0, 0, γ 4) := by
    unfold dn14
    refine zLE m0 (zLE m1 (zLE (show fn6 [ρ 0] (γ 0) = (0, ρ 4, γ 1) from l0.symm) (zLV (γ 1) rfl (zLV (ρ 4) rfl (zIN w_0 (zLE (show fn6 [ρ 0 + 1] (γ 1) = (0, ρ 5, γ 2) from l1.symm) (zLV (γ 2) rfl ?_)))))))
    refine zIP w_1 (zLV (ρ 5) rfl (zLE (show fn11 [ρ 5] (γ 2) = (0, 0, γ 3) from l2.symm) (zLV (γ 3) rfl (zIN zQ0_ (zLE (show fn8 [ρ 0] (γ 3) = (0, 0, γ 4) from l3.symm) (zLV (γ 4) rfl ?_))))))
    rfl
  exact zGoo_end hD
theorem vn14_17 {S : Nat → zSpc} (hS6 : zIm S 6 sn6) (hS8 : zIm S 8 sn8) (hS11 : zIm S 11 sn11) {a : List Int} {g : rHp} : ∀ (ρ : Nat → Int) (γ : Nat → rHp), zO 4 S a g q14_17 ρ γ → zGl (fun i vs g1 => jn14 a g i vs g1) (sn14 a g) q14_17 ρ γ := by
  intro ρ γ h
  obtain ⟨ha, hg, hr, hf, hm, hc, hl⟩ := h
  have ha : a = [ρ 0, ρ 1, ρ 2, ρ 3] := ha
  subst ha
  subst hg
  have r4 : (45 : Int) ≤ ρ 4 ∧ ρ 4 ≤ 45 := zRnA hr 4
  have f0 : (0 : Int) ≤ ρ 1 + -ρ 0 + (-3) := zAllA hf 0
  obtain ⟨w_0, w_1, w_2⟩ : (¬ (ρ 4 ≠ 45)) ∧ (0 ≤ ρ 1 + -ρ 0 + (-2)) ∧ (0 ≤ ρ 1 + -ρ 0 + (-3)) := ⟨by omega, by omega, by omega⟩
  have m0 : γ 0 15 0 35 = ρ 0 := zAllA hm 0
  have m1 : γ 0 15 0 34 = ρ 1 := zAllA hm 1
  have c7 : γ 7 = rUp (γ 6) 15 0 35 (ρ 0 + 2) := And.right (zChA hc 2)
  have c8 : γ 8 = rUp (γ 7) 15 0 39 (ρ 8) := And.right (zChA hc 1)
  have c9 : γ 9 = rUp (γ 8) 15 0 40 0 := And.right (zChA hc 0)
  have l0 : sn6 [ρ 0, ρ 1] (γ 0) 0 (ρ 4) (γ 1) := hS6 _ _ _ _ _ (zAllA hl 0)
  have l1 : sn6 [ρ 0 + 1, ρ 1] (γ 1) 0 (ρ 5) (γ 2) := hS6 _ _ _ _ _ (zAllA hl 1)
  have l2 : sn11 [ρ 5] (γ 2) 0 1 (γ 3) := hS11 _ _ _ _ _ (zAllA hl 2)
  have l3 : sn6 [ρ 0 + 1, ρ 1] (γ 3) 0 (ρ 6) (γ 4) := hS6 _ _ _ _ _ (zAllA hl 3)
  have l4 : sn6 [ρ 0 + 2, ρ 1] (γ 4) 0 (ρ 7) (γ 5) := hS6 _ _ _ _ _ (zAllA hl 4)
  have l5 : sn11 [ρ 7] (γ 5) 0 0 (γ 6) := hS11 _ _ _ _ _ (zAllA hl 5)
  have l6 : zOpP (.lneg) (γ 0) (γ 1) [ρ 6 + (-48)] (ρ 8) := zAllA hl 6
  show sn14 [ρ 0, ρ 1, ρ 2, ρ 3] (γ 0) 0 1 (γ 9)
  have hD : dn14 [] (γ 0) = .inr (0, 1, γ 9) := by
    unfold dn14
    refine zLE m0 (zLE m1 (zLE (show fn6 [ρ 0] (γ 0) = (0, ρ 4, γ 1) from l0.symm) (zLV (γ 1) rfl (zLV (ρ 4) rfl (zIN w_0 (zLE (show fn6 [ρ 0 + 1] (γ 1) = (0, ρ 5, γ 2) from l1.symm) (zLV (γ 2) rfl ?_)))))))
    refine zIP w_1 (zLV (ρ 5) rfl (zLE (show fn11 [ρ 5] (γ 2) = (0, 1, γ 3) from l2.symm) (zLV (γ 3) rfl (zIP zQ1_ (zLE (show fn6 [ρ 0 + 1] (γ 3) = (0, ρ 6, γ 4) from l3.symm) (zLV (γ 4) rfl (zLV (ρ 6) rfl ?_)))))))
    refine zLE (show fn6 [ρ 0 + 2] (γ 4) = (0, ρ 7, γ 5) from l4.symm) (zLV (γ 5) rfl (zIP w_2 (zLV (ρ 7) rfl (zLE (show fn11 [ρ 7] (γ 5) = (0, 0, γ 6) from l5.symm) (zLV (γ 6) rfl (zIN zQ0_ (zLE c7.symm ?_)))))))
    refine zLE (zF1_ok l6) (zLE c8.symm (zLE c9.symm ?_))
    rfl
  exact zGoo_end hD
theorem vn14_18 {S : Nat → zSpc} (hS6 : zIm S 6 sn6) (hS8 : zIm S 8 sn8) (hS11 : zIm S 11 sn11) {a : List Int} {g : rHp} : ∀ (ρ : Nat → Int) (γ : Nat → rHp), zO 4 S a g q14_18 ρ γ → zGl (fun i vs g1 => jn14 a g i vs g1) (sn14 a g) q14_18 ρ γ := by
  intro ρ γ h
  obtain ⟨ha, hg, hr, hf, hm, hc, hl⟩ := h
  have ha : a = [ρ 0, ρ 1, ρ 2, ρ 3] := ha
  subst ha
  subst hg
  have r4 : (45 : Int) ≤ ρ 4 ∧ ρ 4 ≤ 45 := zRnA hr 4
  have f0 : (0 : Int) ≤ ρ 1 + -ρ 0 + (-4) := zAllA hf 0
  obtain ⟨w_0, w_1, w_2, w_3⟩ : (¬ (ρ 4 ≠ 45)) ∧ (0 ≤ ρ 1 + -ρ 0 + (-2)) ∧ (0 ≤ ρ 1 + -ρ 0 + (-3)) ∧ (0 ≤ ρ 1 + -ρ 0 + (-4)) := ⟨by omega, by omega, by omega, by omega⟩
  have m0 : γ 0 15 0 35 = ρ 0 := zAllA hm 0
  have m1 : γ 0 15 0 34 = ρ 1 := zAllA hm 1
  have c10 : γ 10 = rUp (γ 9) 15 0 35 (ρ 0 + 3) := And.right (zChA hc 2)
  have c11 : γ 11 = rUp (γ 10) 15 0 39 (ρ 10) := And.right (zChA hc 1)
  have c12 : γ 12 = rUp (γ 11) 15 0 40 0 := And.right (zChA hc 0)
  have l0 : sn6 [ρ 0, ρ 1] (γ 0) 0 (ρ 4) (γ 1) := hS6 _ _ _ _ _ (zAllA hl 0)
  have l1 : sn6 [ρ 0 + 1, ρ 1] (γ 1) 0 (ρ 5) (γ 2) := hS6 _ _ _ _ _ (zAllA hl 1)
  have l2 : sn11 [ρ 5] (γ 2) 0 1 (γ 3) := hS11 _ _ _ _ _ (zAllA hl 2)
  have l3 : sn6 [ρ 0 + 1, ρ 1] (γ 3) 0 (ρ 6) (γ 4) := hS6 _ _ _ _ _ (zAllA hl 3)
  have l4 : sn6 [ρ 0 + 2, ρ 1] (γ 4) 0 (ρ 7) (γ 5) := hS6 _ _ _ _ _ (zAllA hl 4)
  have l5 : sn11 [ρ 7] (γ 5) 0 1 (γ 6) := hS11 _ _ _ _ _ (zAllA hl 5)
  have l6 : sn6 [ρ 0 + 2, ρ 1] (γ 6) 0 (ρ 8) (γ 7) := hS6 _ _ _ _ _ (zAllA hl 6)
  have l7 : sn6 [ρ 0 + 3, ρ 1] (γ 7) 0 (ρ 9) (γ 8) := hS6 _ _ _ _ _ (zAllA hl 7)
  have l8 : sn11 [ρ 9] (γ 8) 0 0 (γ 9) := hS11 _ _ _ _ _ (zAllA hl 8)
  have l9 : zOpP (.lneg) (γ 0) (γ 1) [ρ 8 + 10 * ρ 6 + (-528)] (ρ 10) := zAllA hl 9
  show sn14 [ρ 0, ρ 1, ρ 2, ρ 3] (γ 0) 0 1 (γ 12)
  have hD : dn14 [] (γ 0) = .inr (0, 1, γ 12) := by
    unfold dn14
    refine zLE m0 (zLE m1 (zLE (show fn6 [ρ 0] (γ 0) = (0, ρ 4, γ 1) from l0.symm) (zLV (γ 1) rfl (zLV (ρ 4) rfl (zIN w_0 (zLE (show fn6 [ρ 0 + 1] (γ 1) = (0, ρ 5, γ 2) from l1.symm) (zLV (γ 2) rfl ?_)))))))
    refine zIP w_1 (zLV (ρ 5) rfl (zLE (show fn11 [ρ 5] (γ 2) = (0, 1, γ 3) from l2.symm) (zLV (γ 3) rfl (zIP zQ1_ (zLE (show fn6 [ρ 0 + 1] (γ 3) = (0, ρ 6, γ 4) from l3.symm) (zLV (γ 4) rfl (zLV (ρ 6) rfl ?_)))))))
    refine zLE (show fn6 [ρ 0 + 2] (γ 4) = (0, ρ 7, γ 5) from l4.symm) (zLV (γ 5) rfl (zIP w_2 (zLV (ρ 7) rfl (zLE (show fn11 [ρ 7] (γ 5) = (0, 1, γ 6) from l5.symm) (zLV (γ 6) rfl (zIP zQ1_ (zLE (show fn6 [ρ 0 + 2] (γ 6) = (0, ρ 8, γ 7) from l6.symm) ?_)))))))
    refine zLV (γ 7) rfl (zLV (ρ 8) rfl (zLE (show fn6 [ρ 0 + 3] (γ 7) = (0, ρ 9, γ 8) from l7.symm) (zLV (γ 8) rfl (zIP w_3 (zLV (ρ 9) rfl (zLE (show fn11 [ρ 9] (γ 8) = (0, 0, γ 9) from l8.symm) (zLV (γ 9) rfl ?_)))))))
    refine zIN zQ0_ (zLE c10.symm (zLE (zF1_ok l9) (zLE c11.symm (zLE c12.symm ?_))))
    rfl
  exact zGoo_end hD
theorem vn14_19 {S : Nat → zSpc} (hS6 : zIm S 6 sn6) (hS8 : zIm S 8 sn8) (hS11 : zIm S 11 sn11) {a : List Int} {g : rHp} : ∀ (ρ : Nat → Int) (γ : Nat → rHp), zO 4 S a g q14_19 ρ γ → zGl (fun i vs g1 => jn14 a g i vs g1) (sn14 a g) q14_19 ρ γ := by
  intro ρ γ h
  obtain ⟨ha, hg, hr, hf, hm, hc, hl⟩ := h
  have ha : a = [ρ 0, ρ 1, ρ 2, ρ 3] := ha
  subst ha
  subst hg
  have r4 : (45 : Int) ≤ ρ 4 ∧ ρ 4 ≤ 45 := zRnA hr 4
  have f0 : (0 : Int) ≤ ρ 1 + -ρ 0 + (-5) := zAllA hf 0
  obtain ⟨w_0, w_1, w_2, w_3, w_4⟩ : (¬ (ρ 4 ≠ 45)) ∧ (0 ≤ ρ 1 + -ρ 0 + (-2)) ∧ (0 ≤ ρ 1 + -ρ 0 + (-3)) ∧ (0 ≤ ρ 1 + -ρ 0 + (-4)) ∧ (0 ≤ ρ 1 + -ρ 0 + (-5)) := ⟨by omega, by omega, by omega, by omega, by omega⟩
  have m0 : γ 0 15 0 35 = ρ 0 := zAllA hm 0
  have m1 : γ 0 15 0 34 = ρ 1 := zAllA hm 1
  have c13 : γ 13 = rUp (γ 12) 15 0 35 (ρ 0 + 4) := And.right (zChA hc 2)
  have c14 : γ 14 = rUp (γ 13) 15 0 39 (ρ 12) := And.right (zChA hc 1)
  have c15 : γ 15 = rUp (γ 14) 15 0 40 0 := And.right (zChA hc 0)
  have l0 : sn6 [ρ 0, ρ 1] (γ 0) 0 (ρ 4) (γ 1) := hS6 _ _ _ _ _ (zAllA hl 0)
  have l1 : sn6 [ρ 0 + 1, ρ 1] (γ 1) 0 (ρ 5) (γ 2) := hS6 _ _ _ _ _ (zAllA hl 1)
  have l2 : sn11 [ρ 5] (γ 2) 0 1 (γ 3) := hS11 _ _ _ _ _ (zAllA hl 2)
  have l3 : sn6 [ρ 0 + 1, ρ 1] (γ 3) 0 (ρ 6) (γ 4) := hS6 _ _ _ _ _ (zAllA hl 3)
  have l4 : sn6 [ρ 0 + 2, ρ 1] (γ 4) 0 (ρ 7) (γ 5) := hS6 _ _ _ _ _ (zAllA hl 4)
  have l5 : sn11 [ρ 7] (γ 5) 0 1 (γ 6) := hS11 _ _ _ _ _ (zAllA hl 5)
  have l6 : sn6 [ρ 0 + 2, ρ 1] (γ 6) 0 (ρ 8) (γ 7) := hS6 _ _ _ _ _ (zAllA hl 6)
  have l7 : sn6 [ρ 0 + 3, ρ 1] (γ 7) 0 (ρ 9) (γ 8) := hS6 _ _ _ _ _ (zAllA hl 7)
  have l8 : sn11 [ρ 9] (γ 8) 0 1 (γ 9) := hS11 _ _ _ _ _ (zAllA hl 8)
  have l9 : sn6 [ρ 0 + 3, ρ 1] (γ 9) 0 (ρ 10) (γ 10) := hS6 _ _ _ _ _ (zAllA hl 9)
  have l10 : sn6 [ρ 0 + 4, ρ 1] (γ 10) 0 (ρ 11) (γ 11) := hS6 _ _ _ _ _ (zAllA hl 10)
  have l11 : sn11 [ρ 11] (γ 11) 0 0 (γ 12) := hS11 _ _ _ _ _ (zAllA hl 11)
  have l12 : zOpP (.lneg) (γ 0) (γ 1) [ρ 10 + (10 * ρ 8 + 100 * ρ 6) + (-5328)] (ρ 12) := zAllA hl 12
  show sn14 [ρ 0, ρ 1, ρ 2, ρ 3] (γ 0) 0 1 (γ 15)
  have hD : dn14 [] (γ 0) = .inr (0, 1, γ 15) := by
    unfold dn14
    refine zLE m0 (zLE m1 (zLE (show fn6 [ρ 0] (γ 0) = (0, ρ 4, γ 1) from l0.symm) (zLV (γ 1) rfl (zLV (ρ 4) rfl (zIN w_0 (zLE (show fn6 [ρ 0 + 1] (γ 1) = (0, ρ 5, γ 2) from l1.symm) (zLV (γ 2) rfl ?_)))))))
    refine zIP w_1 (zLV (ρ 5) rfl (zLE (show fn11 [ρ 5] (γ 2) = (0, 1, γ 3) from l2.symm) (zLV (γ 3) rfl (zIP zQ1_ (zLE (show fn6 [ρ 0 + 1] (γ 3) = (0, ρ 6, γ 4) from l3.symm) (zLV (γ 4) rfl (zLV (ρ 6) rfl ?_)))))))
    refine zLE (show fn6 [ρ 0 + 2] (γ 4) = (0, ρ 7, γ 5) from l4.symm) (zLV (γ 5) rfl (zIP w_2 (zLV (ρ 7) rfl (zLE (show fn11 [ρ 7] (γ 5) = (0, 1, γ 6) from l5.symm) (zLV (γ 6) rfl (zIP zQ1_ (zLE (show fn6 [ρ 0 + 2] (γ 6) = (0, ρ 8, γ 7) from l6.symm) ?_)))))))
    refine zLV (γ 7) rfl (zLV (ρ 8) rfl (zLE (show fn6 [ρ 0 + 3] (γ 7) = (0, ρ 9, γ 8) from l7.symm) (zLV (γ 8) rfl (zIP w_3 (zLV (ρ 9) rfl (zLE (show fn11 [ρ 9] (γ 8) = (0, 1, γ 9) from l8.symm) (zLV (γ 9) rfl ?_)))))))
    refine zIP zQ1_ (zLE (show fn6 [ρ 0 + 3] (γ 9) = (0, ρ 10, γ 10) from l9.symm) (zLV (γ 10) rfl (zLV (ρ 10) rfl (zLE (show fn6 [ρ 0 + 4] (γ 10) = (0, ρ 11, γ 11) from l10.symm) (zLV (γ 11) rfl (zIP w_4 (zLV (ρ 11) rfl ?_)))))))
    refine zLE (show fn11 [ρ 11] (γ 11) = (0, 0, γ 12) from l11.symm) (zLV (γ 12) rfl (zIN zQ0_ (zLE c13.symm (zLE (zF1_ok l12) (zLE c14.symm (zLE c15.symm ?_))))))
    rfl
  exact zGoo_end hD
theorem vn14_20 {S : Nat → zSpc} (hS6 : zIm S 6 sn6) (hS8 : zIm S 8 sn8) (hS11 : zIm S 11 sn11) {a : List Int} {g : rHp} : ∀ (ρ : Nat → Int) (γ : Nat → rHp), zO 4 S a g q14_20 ρ γ → zGl (fun i vs g1 => jn14 a g i vs g1) (sn14 a g) q14_20 ρ γ := by
  intro ρ γ h
  obtain ⟨ha, hg, hr, hf, hm, hc, hl⟩ := h
  have ha : a = [ρ 0, ρ 1, ρ 2, ρ 3] := ha
  subst ha
  subst hg
  have r4 : (45 : Int) ≤ ρ 4 ∧ ρ 4 ≤ 45 := zRnA hr 4
  have f0 : (0 : Int) ≤ ρ 1 + -ρ 0 + (-6) := zAllA hf 0
  obtain ⟨w_0, w_1, w_2, w_3, w_4, w_5⟩ : (¬ (ρ 4 ≠ 45)) ∧ (0 ≤ ρ 1 + -ρ 0 + (-2)) ∧ (0 ≤ ρ 1 + -ρ 0 + (-3)) ∧ (0 ≤ ρ 1 + -ρ 0 + (-4)) ∧ (0 ≤ ρ 1 + -ρ 0 + (-5)) ∧ (0 ≤ ρ 1 + -ρ 0 + (-6)) := ⟨by omega, by omega, by omega, by omega, by omega, by omega⟩
  have m0 : γ 0 15 0 35 = ρ 0 := zAllA hm 0
  have m1 : γ 0 15 0 34 = ρ 1 := zAllA hm 1
  have c16 : γ 16 = rUp (γ 15) 15 0 35 (ρ 0 + 5) := And.right (zChA hc 2)
  have c17 : γ 17 = rUp (γ 16) 15 0 39 (ρ 14) := And.right (zChA hc 1)
  have c18 : γ 18 = rUp (γ 17) 15 0 40 0 := And.right (zChA hc 0)
  have l0 : sn6 [ρ 0, ρ 1] (γ 0) 0 (ρ 4) (γ 1) := hS6 _ _ _ _ _ (zAllA hl 0)
  have l1 : sn6 [ρ 0 + 1, ρ 1] (γ 1) 0 (ρ 5) (γ 2) := hS6 _ _ _ _ _ (zAllA hl 1)
  have l2 : sn11 [ρ 5] (γ 2) 0 1 (γ 3) := hS11 _ _ _ _ _ (zAllA hl 2)
  have l3 : sn6 [ρ 0 + 1, ρ 1] (γ 3) 0 (ρ 6) (γ 4) := hS6 _ _ _ _ _ (zAllA hl 3)
  have l4 : sn6 [ρ 0 + 2, ρ 1] (γ 4) 0 (ρ 7) (γ 5) := hS6 _ _ _ _ _ (zAllA hl 4)
  have l5 : sn11 [ρ 7] (γ 5) 0 1 (γ 6) := hS11 _ _ _ _ _ (zAllA hl 5)
  have l6 : sn6 [ρ 0 + 2, ρ 1] (γ 6) 0 (ρ 8) (γ 7) := hS6 _ _ _ _ _ (zAllA hl 6)
  have l7 : sn6 [ρ 0 + 3, ρ 1] (γ 7) 0 (ρ 9) (γ 8) := hS6 _ _ _ _ _ (zAllA hl 7)
  have l8 : sn11 [ρ 9] (γ 8) 0 1 (γ 9) := hS11 _ _ _ _ _ (zAllA hl 8)
  have l9 : sn6 [ρ 0 + 3, ρ 1] (γ 9) 0 (ρ 10) (γ 10) := hS6 _ _ _ _ _ (zAllA hl 9)
  have l10 : sn6 [ρ 0 + 4, ρ 1] (γ 10) 0 (ρ 11) (γ 11) := hS6 _ _ _ _ _ (zAllA hl 10)
  have l11 : sn11 [ρ 11] (γ 11) 0 1 (γ 12) := hS11 _ _ _ _ _ (zAllA hl 11)
  have l12 : sn6 [ρ 0 + 4, ρ 1] (γ 12) 0 (ρ 12) (γ 13) := hS6 _ _ _ _ _ (zAllA hl 12)
  have l13 : sn6 [ρ 0 + 5, ρ 1] (γ 13) 0 (ρ 13) (γ 14) := hS6 _ _ _ _ _ (zAllA hl 13)
  have l14 : sn11 [ρ 13] (γ 14) 0 0 (γ 15) := hS11 _ _ _ _ _ (zAllA hl 14)
  have l15 : zOpP (.lneg) (γ 0) (γ 1) [ρ 12 + (10 * ρ 10 + (100 * ρ 8 + 1000 * ρ 6)) + (-53328)] (ρ 14) := zAllA hl 15
  show sn14 [ρ 0, ρ 1, ρ 2, ρ 3] (γ 0) 0 1 (γ 18)
  have hD : dn14 [] (γ 0) = .inr (0, 1, γ 18) := by
    unfold dn14
    refine zLE m0 (zLE m1 (zLE (show fn6 [ρ 0] (γ 0) = (0, ρ 4, γ 1) from l0.symm) (zLV (γ 1) rfl (zLV (ρ 4) rfl (zIN w_0 (zLE (show fn6 [ρ 0 + 1] (γ 1) = (0, ρ 5, γ 2) from l1.symm) (zLV (γ 2) rfl ?_)))))))
    refine zIP w_1 (zLV (ρ 5) rfl (zLE (show fn11 [ρ 5] (γ 2) = (0, 1, γ 3) from l2.symm) (zLV (γ 3) rfl (zIP zQ1_ (zLE (show fn6 [ρ 0 + 1] (γ 3) = (0, ρ 6, γ 4) from l3.symm) (zLV (γ 4) rfl (zLV (ρ 6) rfl ?_)))))))
    refine zLE (show fn6 [ρ 0 + 2] (γ 4) = (0, ρ 7, γ 5) from l4.symm) (zLV (γ 5) rfl (zIP w_2 (zLV (ρ 7) rfl (zLE (show fn11 [ρ 7] (γ 5) = (0, 1, γ 6) from l5.symm) (zLV (γ 6) rfl (zIP zQ1_ (zLE (show fn6 [ρ 0 + 2] (γ 6) = (0, ρ 8, γ 7) from l6.symm) ?_)))))))
    refine zLV (γ 7) rfl (zLV (ρ 8) rfl (zLE (show fn6 [ρ 0 + 3] (γ 7) = (0, ρ 9, γ 8) from l7.symm) (zLV (γ 8) rfl (zIP w_3 (zLV (ρ 9) rfl (zLE (show fn11 [ρ 9] (γ 8) = (0, 1, γ 9) from l8.symm) (zLV (γ 9) rfl ?_)))))))
    refine zIP zQ1_ (zLE (show fn6 [ρ 0 + 3] (γ 9) = (0, ρ 10, γ 10) from l9.symm) (zLV (γ 10) rfl (zLV (ρ 10) rfl (zLE (show fn6 [ρ 0 + 4] (γ 10) = (0, ρ 11, γ 11) from l10.symm) (zLV (γ 11) rfl (zIP w_4 (zLV (ρ 11) rfl ?_)))))))
    refine zLE (show fn11 [ρ 11] (γ 11) = (0, 1, γ 12) from l11.symm) (zLV (γ 12) rfl (zIP zQ1_ (zLE (show fn6 [ρ 0 + 4] (γ 12) = (0, ρ 12, γ 13) from l12.symm) (zLV (γ 13) rfl (zLV (ρ 12) rfl (zLE (show fn6 [ρ 0 + 5] (γ 13) = (0, ρ 13, γ 14) from l13.symm) (zLV (γ 14) rfl ?_)))))))
    refine zIP w_5 (zLV (ρ 13) rfl (zLE (show fn11 [ρ 13] (γ 14) = (0, 0, γ 15) from l14.symm) (zLV (γ 15) rfl (zIN zQ0_ (zLE c16.symm (zLE (zF1_ok l15) (zLE c17.symm ?_)))))))
    refine zLE c18.symm ?_
    rfl
  exact zGoo_end hD
theorem vn14_21 {S : Nat → zSpc} (hS6 : zIm S 6 sn6) (hS8 : zIm S 8 sn8) (hS11 : zIm S 11 sn11) {a : List Int} {g : rHp} : ∀ (ρ : Nat → Int) (γ : Nat → rHp), zO 4 S a g q14_21 ρ γ → zGl (fun i vs g1 => jn14 a g i vs g1) (sn14 a g) q14_21 ρ γ := by
  intro ρ γ h
  obtain ⟨ha, hg, hr, hf, hm, hc, hl⟩ := h
  have ha : a = [ρ 0, ρ 1, ρ 2, ρ 3] := ha
  subst ha
  subst hg
  have r4 : (45 : Int) ≤ ρ 4 ∧ ρ 4 ≤ 45 := zRnA hr 4
  have f0 : (0 : Int) ≤ ρ 1 + -ρ 0 + (-7) := zAllA hf 0
  obtain ⟨w_0, w_1, w_2, w_3, w_4, w_5, w_6⟩ : (¬ (ρ 4 ≠ 45)) ∧ (0 ≤ ρ 1 + -ρ 0 + (-2)) ∧ (0 ≤ ρ 1 + -ρ 0 + (-3)) ∧ (0 ≤ ρ 1 + -ρ 0 + (-4)) ∧ (0 ≤ ρ 1 + -ρ 0 + (-5)) ∧ (0 ≤ ρ 1 + -ρ 0 + (-6)) ∧ (0 ≤ ρ 1 + -ρ 0 + (-7)) := ⟨by omega, by omega, by omega, by omega, by omega, by omega, by omega⟩
  have m0 : γ 0 15 0 35 = ρ 0 := zAllA hm 0
  have m1 : γ 0 15 0 34 = ρ 1 := zAllA hm 1
  have c19 : γ 19 = rUp (γ 18) 15 0 35 (ρ 0 + 6) := And.right (zChA hc 2)
  have c20 : γ 20 = rUp (γ 19) 15 0 39 (ρ 16) := And.right (zChA hc 1)
  have c21 : γ 21 = rUp (γ 20) 15 0 40 0 := And.right (zChA hc 0)
  have l0 : sn6 [ρ 0, ρ 1] (γ 0) 0 (ρ 4) (γ 1) := hS6 _ _ _ _ _ (zAllA hl 0)
  have l1 : sn6 [ρ 0 + 1, ρ 1] (γ 1) 0 (ρ 5) (γ 2) := hS6 _ _ _ _ _ (zAllA hl 1)
  have l2 : sn11 [ρ 5] (γ 2) 0 1 (γ 3) := hS11 _ _ _ _ _ (zAllA hl 2)
  have l3 : sn6 [ρ 0 + 1, ρ 1] (γ 3) 0 (ρ 6) (γ 4) := hS6 _ _ _ _ _ (zAllA hl 3)
  have l4 : sn6 [ρ 0 + 2, ρ 1] (γ 4) 0 (ρ 7) (γ 5) := hS6 _ _ _ _ _ (zAllA hl 4)
  have l5 : sn11 [ρ 7] (γ 5) 0 1 (γ 6) := hS11 _ _ _ _ _ (zAllA hl 5)
  have l6 : sn6 [ρ 0 + 2, ρ 1] (γ 6) 0 (ρ 8) (γ 7) := hS6 _ _ _ _ _ (zAllA hl 6)
  have l7 : sn6 [ρ 0 + 3, ρ 1] (γ 7) 0 (ρ 9) (γ 8) := hS6 _ _ _ _ _ (zAllA hl 7)
  have l8 : sn11 [ρ 9] (γ 8) 0 1 (γ 9) := hS11 _ _ _ _ _ (zAllA hl 8)
  have l9 : sn6 [ρ 0 + 3, ρ 1] (γ 9) 0 (ρ 10) (γ 10) := hS6 _ _ _ _ _ (zAllA hl 9)
  have l10 : sn6 [ρ 0 + 4, ρ 1] (γ 10) 0 (ρ 11) (γ 11) := hS6 _ _ _ _ _ (zAllA hl 10)
  have l11 : sn11 [ρ 11] (γ 11) 0 1 (γ 12) := hS11 _ _ _ _ _ (zAllA hl 11)
  have l12 : sn6 [ρ 0 + 4, ρ 1] (γ 12) 0 (ρ 12) (γ 13) := hS6 _ _ _ _ _ (zAllA hl 12)
  have l13 : sn6 [ρ 0 + 5, ρ 1] (γ 13) 0 (ρ 13) (γ 14) := hS6 _ _ _ _ _ (zAllA hl 13)
  have l14 : sn11 [ρ 13] (γ 14) 0 1 (γ 15) := hS11 _ _ _ _ _ (zAllA hl 14)
  have l15 : sn6 [ρ 0 + 5, ρ 1] (γ 15) 0 (ρ 14) (γ 16) := hS6 _ _ _ _ _ (zAllA hl 15)
  have l16 : sn6 [ρ 0 + 6, ρ 1] (γ 16) 0 (ρ 15) (γ 17) := hS6 _ _ _ _ _ (zAllA hl 16)
  have l17 : sn11 [ρ 15] (γ 17) 0 0 (γ 18) := hS11 _ _ _ _ _ (zAllA hl 17)
  have l18 : zOpP (.lneg) (γ 0) (γ 1) [ρ 14 + (10 * ρ 12 + (100 * ρ 10 + (1000 * ρ 8 + 10000 * ρ 6))) + (-533328)] (ρ 16) := zAllA hl 18
  show sn14 [ρ 0, ρ 1, ρ 2, ρ 3] (γ 0) 0 1 (γ 21)
  have hD : dn14 [] (γ 0) = .inr (0, 1, γ 21) := by
    unfold dn14
    refine zLE m0 (zLE m1 (zLE (show fn6 [ρ 0] (γ 0) = (0, ρ 4, γ 1) from l0.symm) (zLV (γ 1) rfl (zLV (ρ 4) rfl (zIN w_0 (zLE (show fn6 [ρ 0 + 1] (γ 1) = (0, ρ 5, γ 2) from l1.symm) (zLV (γ 2) rfl ?_)))))))
    refine zIP w_1 (zLV (ρ 5) rfl (zLE (show fn11 [ρ 5] (γ 2) = (0, 1, γ 3) from l2.symm) (zLV (γ 3) rfl (zIP zQ1_ (zLE (show fn6 [ρ 0 + 1] (γ 3) = (0, ρ 6, γ 4) from l3.symm) (zLV (γ 4) rfl (zLV (ρ 6) rfl ?_)))))))
    refine zLE (show fn6 [ρ 0 + 2] (γ 4) = (0, ρ 7, γ 5) from l4.symm) (zLV (γ 5) rfl (zIP w_2 (zLV (ρ 7) rfl (zLE (show fn11 [ρ 7] (γ 5) = (0, 1, γ 6) from l5.symm) (zLV (γ 6) rfl (zIP zQ1_ (zLE (show fn6 [ρ 0 + 2] (γ 6) = (0, ρ 8, γ 7) from l6.symm) ?_)))))))
    refine zLV (γ 7) rfl (zLV (ρ 8) rfl (zLE (show fn6 [ρ 0 + 3] (γ 7) = (0, ρ 9, γ 8) from l7.symm) (zLV (γ 8) rfl (zIP w_3 (zLV (ρ 9) rfl (zLE (show fn11 [ρ 9] (γ 8) = (0, 1, γ 9) from l8.symm) (zLV (γ 9) rfl ?_)))))))
    refine zIP zQ1_ (zLE (show fn6 [ρ 0 + 3] (γ 9) = (0, ρ 10, γ 10) from l9.symm) (zLV (γ 10) rfl (zLV (ρ 10) rfl (zLE (show fn6 [ρ 0 + 4] (γ 10) = (0, ρ 11, γ 11) from l10.symm) (zLV (γ 11) rfl (zIP w_4 (zLV (ρ 11) rfl ?_)))))))
    refine zLE (show fn11 [ρ 11] (γ 11) = (0, 1, γ 12) from l11.symm) (zLV (γ 12) rfl (zIP zQ1_ (zLE (show fn6 [ρ 0 + 4] (γ 12) = (0, ρ 12, γ 13) from l12.symm) (zLV (γ 13) rfl (zLV (ρ 12) rfl (zLE (show fn6 [ρ 0 + 5] (γ 13) = (0, ρ 13, γ 14) from l13.symm) (zLV (γ 14) rfl ?_)))))))
    refine zIP w_5 (zLV (ρ 13) rfl (zLE (show fn11 [ρ 13] (γ 14) = (0, 1, γ 15) from l14.symm) (zLV (γ 15) rfl (zIP zQ1_ (zLE (show fn6 [ρ 0 + 5] (γ 15) = (0, ρ 14, γ 16) from l15.symm) (zLV (γ 16) rfl (zLV (ρ 14) rfl ?_)))))))
    refine zLE (show fn6 [ρ 0 + 6] (γ 16) = (0, ρ 15, γ 17) from l16.symm) (zLV (γ 17) rfl (zIP w_6 (zLV (ρ 15) rfl (zLE (show fn11 [ρ 15] (γ 17) = (0, 0, γ 18) from l17.symm) (zLV (γ 18) rfl (zIN zQ0_ (zLE c19.symm ?_)))))))
    refine zLE (zF1_ok l18) (zLE c20.symm (zLE c21.symm ?_))
    rfl
  exact zGoo_end hD
theorem vn14_22 {S : Nat → zSpc} (hS6 : zIm S 6 sn6) (hS8 : zIm S 8 sn8) (hS11 : zIm S 11 sn11) {a : List Int} {g : rHp} : ∀ (ρ : Nat → Int) (γ : Nat → rHp), zO 4 S a g q14_22 ρ γ → zGl (fun i vs g1 => jn14 a g i vs g1) (sn14 a g) q14_22 ρ γ := by
  intro ρ γ h
  obtain ⟨ha, hg, hr, hf, hm, hc, hl⟩ := h
  have ha : a = [ρ 0, ρ 1, ρ 2, ρ 3] := ha
  subst ha
  subst hg
  have r4 : (45 : Int) ≤ ρ 4 ∧ ρ 4 ≤ 45 := zRnA hr 4
  have f0 : (0 : Int) ≤ ρ 1 + -ρ 0 + (-8) := zAllA hf 0
  obtain ⟨w_0, w_1, w_2, w_3, w_4, w_5, w_6, w_7⟩ : (¬ (ρ 4 ≠ 45)) ∧ (0 ≤ ρ 1 + -ρ 0 + (-2)) ∧ (0 ≤ ρ 1 + -ρ 0 + (-3)) ∧ (0 ≤ ρ 1 + -ρ 0 + (-4)) ∧ (0 ≤ ρ 1 + -ρ 0 + (-5)) ∧ (0 ≤ ρ 1 + -ρ 0 + (-6)) ∧ (0 ≤ ρ 1 + -ρ 0 + (-7)) ∧ (0 ≤ ρ 1 + -ρ 0 + (-8)) := ⟨by omega, by omega, by omega, by omega, by omega, by omega, by omega, by omega⟩
  have m0 : γ 0 15 0 35 = ρ 0 := zAllA hm 0
  have m1 : γ 0 15 0 34 = ρ 1 := zAllA hm 1
  have c22 : γ 22 = rUp (γ 21) 15 0 35 (ρ 0 + 7) := And.right (zChA hc 2)
  have c23 : γ 23 = rUp (γ 22) 15 0 39 (ρ 18) := And.right (zChA hc 1)
  have c24 : γ 24 = rUp (γ 23) 15 0 40 0 := And.right (zChA hc 0)
  have l0 : sn6 [ρ 0, ρ 1] (γ 0) 0 (ρ 4) (γ 1) := hS6 _ _ _ _ _ (zAllA hl 0)
  have l1 : sn6 [ρ 0 + 1, ρ 1] (γ 1) 0 (ρ 5) (γ 2) := hS6 _ _ _ _ _ (zAllA hl 1)
  have l2 : sn11 [ρ 5] (γ 2) 0 1 (γ 3) := hS11 _ _ _ _ _ (zAllA hl 2)
  have l3 : sn6 [ρ 0 + 1, ρ 1] (γ 3) 0 (ρ 6) (γ 4) := hS6 _ _ _ _ _ (zAllA hl 3)
  have l4 : sn6 [ρ 0 + 2, ρ 1] (γ 4) 0 (ρ 7) (γ 5) := hS6 _ _ _ _ _ (zAllA hl 4)
  have l5 : sn11 [ρ 7] (γ 5) 0 1 (γ 6) := hS11 _ _ _ _ _ (zAllA hl 5)
  have l6 : sn6 [ρ 0 + 2, ρ 1] (γ 6) 0 (ρ 8) (γ 7) := hS6 _ _ _ _ _ (zAllA hl 6)
  have l7 : sn6 [ρ 0 + 3, ρ 1] (γ 7) 0 (ρ 9) (γ 8) := hS6 _ _ _ _ _ (zAllA hl 7)
  have l8 : sn11 [ρ 9] (γ 8) 0 1 (γ 9) := hS11 _ _ _ _ _ (zAllA hl 8)
  have l9 : sn6 [ρ 0 + 3, ρ 1] (γ 9) 0 (ρ 10) (γ 10) := hS6 _ _ _ _ _ (zAllA hl 9)
  have l10 : sn6 [ρ 0 + 4, ρ 1] (γ 10) 0 (ρ 11) (γ 11) := hS6 _ _ _ _ _ (zAllA hl 10)
  have l11 : sn11 [ρ 11] (γ 11) 0 1 (γ 12) := hS11 _ _ _ _ _ (zAllA hl 11)
  have l12 : sn6 [ρ 0 + 4, ρ 1] (γ 12) 0 (ρ 12) (γ 13) := hS6 _ _ _ _ _ (zAllA hl 12)
  have l13 : sn6 [ρ 0 + 5, ρ 1] (γ 13) 0 (ρ 13) (γ 14) := hS6 _ _ _ _ _ (zAllA hl 13)
  have l14 : sn11 [ρ 13] (γ 14) 0 1 (γ 15) := hS11 _ _ _ _ _ (zAllA hl 14)
  have l15 : sn6 [ρ 0 + 5, ρ 1] (γ 15) 0 (ρ 14) (γ 16) := hS6 _ _ _ _ _ (zAllA hl 15)
  have l16 : sn6 [ρ 0 + 6, ρ 1] (γ 16) 0 (ρ 15) (γ 17) := hS6 _ _ _ _ _ (zAllA hl 16)
  have l17 : sn11 [ρ 15] (γ 17) 0 1 (γ 18) := hS11 _ _ _ _ _ (zAllA hl 17)
  have l18 : sn6 [ρ 0 + 6, ρ 1] (γ 18) 0 (ρ 16) (γ 19) := hS6 _ _ _ _ _ (zAllA hl 18)
  have l19 : sn6 [ρ 0 + 7, ρ 1] (γ 19) 0 (ρ 17) (γ 20) := hS6 _ _ _ _ _ (zAllA hl 19)
  have l20 : sn11 [ρ 17] (γ 20) 0 0 (γ 21) := hS11 _ _ _ _ _ (zAllA hl 20)
  have l21 : zOpP (.lneg) (γ 0) (γ 1) [ρ 16 + (10 * ρ 14 + (100 * ρ 12 + (1000 * ρ 10 + (10000 * ρ 8 + 100000 * ρ 6)))) + (-5333328)] (ρ 18) := zAllA hl 21
  show sn14 [ρ 0, ρ 1, ρ 2, ρ 3] (γ 0) 0 1 (γ 24)
  have hD : dn14 [] (γ 0) = .inr (0, 1, γ 24) := by
    unfold dn14
    refine zLE m0 (zLE m1 (zLE (show fn6 [ρ 0] (γ 0) = (0, ρ 4, γ 1) from l0.symm) (zLV (γ 1) rfl (zLV (ρ 4) rfl (zIN w_0 (zLE (show fn6 [ρ 0 + 1] (γ 1) = (0, ρ 5, γ 2) from l1.symm) (zLV (γ 2) rfl ?_)))))))
    refine zIP w_1 (zLV (ρ 5) rfl (zLE (show fn11 [ρ 5] (γ 2) = (0, 1, γ 3) from l2.symm) (zLV (γ 3) rfl (zIP zQ1_ (zLE (show fn6 [ρ 0 + 1] (γ 3) = (0, ρ 6, γ 4) from l3.symm) (zLV (γ 4) rfl (zLV (ρ 6) rfl ?_)))))))
    refine zLE (show fn6 [ρ 0 + 2] (γ 4) = (0, ρ 7, γ 5) from l4.symm) (zLV (γ 5) rfl (zIP w_2 (zLV (ρ 7) rfl (zLE (show fn11 [ρ 7] (γ 5) = (0, 1, γ 6) from l5.symm) (zLV (γ 6) rfl (zIP zQ1_ (zLE (show fn6 [ρ 0 + 2] (γ 6) = (0, ρ 8, γ 7) from l6.symm) ?_)))))))
    refine zLV (γ 7) rfl (zLV (ρ 8) rfl (zLE (show fn6 [ρ 0 + 3] (γ 7) = (0, ρ 9, γ 8) from l7.symm) (zLV (γ 8) rfl (zIP w_3 (zLV (ρ 9) rfl (zLE (show fn11 [ρ 9] (γ 8) = (0, 1, γ 9) from l8.symm) (zLV (γ 9) rfl ?_)))))))
    refine zIP zQ1_ (zLE (show fn6 [ρ 0 + 3] (γ 9) = (0, ρ 10, γ 10) from l9.symm) (zLV (γ 10) rfl (zLV (ρ 10) rfl (zLE (show fn6 [ρ 0 + 4] (γ 10) = (0, ρ 11, γ 11) from l10.symm) (zLV (γ 11) rfl (zIP w_4 (zLV (ρ 11) rfl ?_)))))))
    refine zLE (show fn11 [ρ 11] (γ 11) = (0, 1, γ 12) from l11.symm) (zLV (γ 12) rfl (zIP zQ1_ (zLE (show fn6 [ρ 0 + 4] (γ 12) = (0, ρ 12, γ 13) from l12.symm) (zLV (γ 13) rfl (zLV (ρ 12) rfl (zLE (show fn6 [ρ 0 + 5] (γ 13) = (0, ρ 13, γ 14) from l13.symm) (zLV (γ 14) rfl ?_)))))))
    refine zIP w_5 (zLV (ρ 13) rfl (zLE (show fn11 [ρ 13] (γ 14) = (0, 1, γ 15) from l14.symm) (zLV (γ 15) rfl (zIP zQ1_ (zLE (show fn6 [ρ 0 + 5] (γ 15) = (0, ρ 14, γ 16) from l15.symm) (zLV (γ 16) rfl (zLV (ρ 14) rfl ?_)))))))
    refine zLE (show fn6 [ρ 0 + 6] (γ 16) = (0, ρ 15, γ 17) from l16.symm) (zLV (γ 17) rfl (zIP w_6 (zLV (ρ 15) rfl (zLE (show fn11 [ρ 15] (γ 17) = (0, 1, γ 18) from l17.symm) (zLV (γ 18) rfl (zIP zQ1_ (zLE (show fn6 [ρ 0 + 6] (γ 18) = (0, ρ 16, γ 19) from l18.symm) ?_)))))))
    refine zLV (γ 19) rfl (zLV (ρ 16) rfl (zLE (show fn6 [ρ 0 + 7] (γ 19) = (0, ρ 17, γ 20) from l19.symm) (zLV (γ 20) rfl (zIP w_7 (zLV (ρ 17) rfl (zLE (show fn11 [ρ 17] (γ 20) = (0, 0, γ 21) from l20.symm) (zLV (γ 21) rfl ?_)))))))
    refine zIN zQ0_ (zLE c22.symm (zLE (zF1_ok l21) (zLE c23.symm (zLE c24.symm ?_))))
    rfl
  exact zGoo_end hD
theorem vn14_23 {S : Nat → zSpc} (hS6 : zIm S 6 sn6) (hS8 : zIm S 8 sn8) (hS11 : zIm S 11 sn11) {a : List Int} {g : rHp} : ∀ (ρ : Nat → Int) (γ : Nat → rHp), zO 4 S a g q14_23 ρ γ → zGl (fun i vs g1 => jn14 a g i vs g1) (sn14 a g) q14_23 ρ γ := by
  intro ρ γ h
  obtain ⟨ha, hg, hr, hf, hm, hc, hl⟩ := h
  have ha : a = [ρ 0, ρ 1, ρ 2, ρ 3] := ha
  subst ha
  subst hg
  have r4 : (45 : Int) ≤ ρ 4 ∧ ρ 4 ≤ 45 := zRnA hr 4
  have f0 : (0 : Int) ≤ ρ 1 + -ρ 0 + (-9) := zAllA hf 0
  obtain ⟨w_0, w_1, w_2, w_3, w_4, w_5, w_6, w_7, w_8⟩ : (¬ (ρ 4 ≠ 45)) ∧ (0 ≤ ρ 1 + -ρ 0 + (-2)) ∧ (0 ≤ ρ 1 + -ρ 0 + (-3)) ∧ (0 ≤ ρ 1 + -ρ 0 + (-4)) ∧ (0 ≤ ρ 1 + -ρ 0 + (-5)) ∧ (0 ≤ ρ 1 + -ρ 0 + (-6)) ∧ (0 ≤ ρ 1 + -ρ 0 + (-7)) ∧ (0 ≤ ρ 1 + -ρ 0 + (-8)) ∧ (0 ≤ ρ 1 + -ρ 0 + (-9)) := ⟨by omega, by omega, by omega, by omega, by omega, by omega, by omega, by omega, by omega⟩
  have m0 : γ 0 15 0 35 = ρ 0 := zAllA hm 0
  have m1 : γ 0 15 0 34 = ρ 1 := zAllA hm 1
  have c25 : γ 25 = rUp (γ 24) 15 0 35 (ρ 0 + 8) := And.right (zChA hc 2)
  have c26 : γ 26 = rUp (γ 25) 15 0 39 (ρ 20) := And.right (zChA hc 1)
  have c27 : γ 27 = rUp (γ 26) 15 0 40 0 := And.right (zChA hc 0)
  have l0 : sn6 [ρ 0, ρ 1] (γ 0) 0 (ρ 4) (γ 1) := hS6 _ _ _ _ _ (zAllA hl 0)
  have l1 : sn6 [ρ 0 + 1, ρ 1] (γ 1) 0 (ρ 5) (γ 2) := hS6 _ _ _ _ _ (zAllA hl 1)
  have l2 : sn11 [ρ 5] (γ 2) 0 1 (γ 3) := hS11 _ _ _ _ _ (zAllA hl 2)
  have l3 : sn6 [ρ 0 + 1, ρ 1] (γ 3) 0 (ρ 6) (γ 4) := hS6 _ _ _ _ _ (zAllA hl 3)
  have l4 : sn6 [ρ 0 + 2, ρ 1] (γ 4) 0 (ρ 7) (γ 5) := hS6 _ _ _ _ _ (zAllA hl 4)
  have l5 : sn11 [ρ 7] (γ 5) 0 1 (γ 6) := hS11 _ _ _ _ _ (zAllA hl 5)
  have l6 : sn6 [ρ 0 + 2, ρ 1] (γ 6) 0 (ρ 8) (γ 7) := hS6 _ _ _ _ _ (zAllA hl 6)
  have l7 : sn6 [ρ 0 + 3, ρ 1] (γ 7) 0 (ρ 9) (γ 8) := hS6 _ _ _ _ _ (zAllA hl 7)
  have l8 : sn11 [ρ 9] (γ 8) 0 1 (γ 9) := hS11 _ _ _ _ _ (zAllA hl 8)
  have l9 : sn6 [ρ 0 + 3, ρ 1] (γ 9) 0 (ρ 10) (γ 10) := hS6 _ _ _ _ _ (zAllA hl 9)
  have l10 : sn6 [ρ 0 + 4, ρ 1] (γ 10) 0 (ρ 11) (γ 11) := hS6 _ _ _ _ _ (zAllA hl 10)
  have l11 : sn11 [ρ 11] (γ 11) 0 1 (γ 12) := hS11 _ _ _ _ _ (zAllA hl 11)
  have l12 : sn6 [ρ 0 + 4, ρ 1] (γ 12) 0 (ρ 12) (γ 13) := hS6 _ _ _ _ _ (zAllA hl 12)
  have l13 : sn6 [ρ 0 + 5, ρ 1] (γ 13) 0 (ρ 13) (γ 14) := hS6 _ _ _ _ _ (zAllA hl 13)
  have l14 : sn11 [ρ 13] (γ 14) 0 1 (γ 15) := hS11 _ _ _ _ _ (zAllA hl 14)
  have l15 : sn6 [ρ 0 + 5, ρ 1] (γ 15) 0 (ρ 14) (γ 16) := hS6 _ _ _ _ _ (zAllA hl 15)
  have l16 : sn6 [ρ 0 + 6, ρ 1] (γ 16) 0 (ρ 15) (γ 17) := hS6 _ _ _ _ _ (zAllA hl 16)
  have l17 : sn11 [ρ 15] (γ 17) 0 1 (γ 18) := hS11 _ _ _ _ _ (zAllA hl 17)
  have l18 : sn6 [ρ 0 + 6, ρ 1] (γ 18) 0 (ρ 16) (γ 19) := hS6 _ _ _ _ _ (zAllA hl 18)
  have l19 : sn6 [ρ 0 + 7, ρ 1] (γ 19) 0 (ρ 17) (γ 20) := hS6 _ _ _ _ _ (zAllA hl 19)
  have l20 : sn11 [ρ 17] (γ 20) 0 1 (γ 21) := hS11 _ _ _ _ _ (zAllA hl 20)
  have l21 : sn6 [ρ 0 + 7, ρ 1] (γ 21) 0 (ρ 18) (γ 22) := hS6 _ _ _ _ _ (zAllA hl 21)
  have l22 : sn6 [ρ 0 + 8, ρ 1] (γ 22) 0 (ρ 19) (γ 23) := hS6 _ _ _ _ _ (zAllA hl 22)
  have l23 : sn11 [ρ 19] (γ 23) 0 0 (γ 24) := hS11 _ _ _ _ _ (zAllA hl 23)
  have l24 : zOpP (.lneg) (γ 0) (γ 1) [ρ 18 + (10 * ρ 16 + (100 * ρ 14 + (1000 * ρ 12 + (10000 * ρ 10 + (100000 * ρ 8 + 1000000 * ρ 6))))) + (-53333328)] (ρ 20) := zAllA hl 24
  show sn14 [ρ 0, ρ 1, ρ 2, ρ 3] (γ 0) 0 1 (γ 27)
  have hD : dn14 [] (γ 0) = .inr (0, 1, γ 27) := by
    unfold dn14
    refine zLE m0 (zLE m1 (zLE (show fn6 [ρ 0] (γ 0) = (0, ρ 4, γ 1) from l0.symm) (zLV (γ 1) rfl (zLV (ρ 4) rfl (zIN w_0 (zLE (show fn6 [ρ 0 + 1] (γ 1) = (0, ρ 5, γ 2) from l1.symm) (zLV (γ 2) rfl ?_)))))))
    refine zIP w_1 (zLV (ρ 5) rfl (zLE (show fn11 [ρ 5] (γ 2) = (0, 1, γ 3) from l2.symm) (zLV (γ 3) rfl (zIP zQ1_ (zLE (show fn6 [ρ 0 + 1] (γ 3) = (0, ρ 6, γ 4) from l3.symm) (zLV (γ 4) rfl (zLV (ρ 6) rfl ?_)))))))
    refine zLE (show fn6 [ρ 0 + 2] (γ 4) = (0, ρ 7, γ 5) from l4.symm) (zLV (γ 5) rfl (zIP w_2 (zLV (ρ 7) rfl (zLE (show fn11 [ρ 7] (γ 5) = (0, 1, γ 6) from l5.symm) (zLV (γ 6) rfl (zIP zQ1_ (zLE (show fn6 [ρ 0 + 2] (γ 6) = (0, ρ 8, γ 7) from l6.symm) ?_)))))))
    refine zLV (γ 7) rfl (zLV (ρ 8) rfl (zLE (show fn6 [ρ 0 + 3] (γ 7) = (0, ρ 9, γ 8) from l7.symm) (zLV (γ 8) rfl (zIP w_3 (zLV (ρ 9) rfl (zLE (show fn11 [ρ 9] (γ 8) = (0, 1, γ 9) from l8.symm) (zLV (γ 9) rfl ?_)))))))
    refine zIP zQ1_ (zLE (show fn6 [ρ 0 + 3] (γ 9) = (0, ρ 10, γ 10) from l9.symm) (zLV (γ 10) rfl (zLV (ρ 10) rfl (zLE (show fn6 [ρ 0 + 4] (γ 10) = (0, ρ 11, γ 11) from l10.symm) (zLV (γ 11) rfl (zIP w_4 (zLV (ρ 11) rfl ?_)))))))
    refine zLE (show fn11 [ρ 11] (γ 11) = (0, 1, γ 12) from l11.symm) (zLV (γ 12) rfl (zIP zQ1_ (zLE (show fn6 [ρ 0 + 4] (γ 12) = (0, ρ 12, γ 13) from l12.symm) (zLV (γ 13) rfl (zLV (ρ 12) rfl (zLE (show fn6 [ρ 0 + 5] (γ 13) = (0, ρ 13, γ 14) from l13.symm) (zLV (γ 14) rfl ?_)))))))
    refine zIP w_5 (zLV (ρ 13) rfl (zLE (show fn11 [ρ 13] (γ 14) = (0, 1, γ 15) from l14.symm) (zLV (γ 15) rfl (zIP zQ1_ (zLE (show fn6 [ρ 0 + 5] (γ 15) = (0, ρ 14, γ 16) from l15.symm) (zLV (γ 16) rfl (zLV (ρ 14) rfl ?_)))))))
    refine zLE (show fn6 [ρ 0 + 6] (γ 16) = (0, ρ 15, γ 17) from l16.symm) (zLV (γ 17) rfl (zIP w_6 (zLV (ρ 15) rfl (zLE (show fn11 [ρ 15] (γ 17) = (0, 1, γ 18) from l17.symm) (zLV (γ 18) rfl (zIP zQ1_ (zLE (show fn6 [ρ 0 + 6] (γ 18) = (0, ρ 16, γ 19) from l18.symm) ?_)))))))
    refine zLV (γ 19) rfl (zLV (ρ 16) rfl (zLE (show fn6 [ρ 0 + 7] (γ 19) = (0, ρ 17, γ 20) from l19.symm) (zLV (γ 20) rfl (zIP w_7 (zLV (ρ 17) rfl (zLE (show fn11 [ρ 17] (γ 20) = (0, 1, γ 21) from l20.symm) (zLV (γ 21) rfl ?_)))))))
    refine zIP zQ1_ (zLE (show fn6 [ρ 0 + 7] (γ 21) = (0, ρ 18, γ 22) from l21.symm) (zLV (γ 22) rfl (zLV (ρ 18) rfl (zLE (show fn6 [ρ 0 + 8] (γ 22) = (0, ρ 19, γ 23) from l22.symm) (zLV (γ 23) rfl (zIP w_8 (zLV (ρ 19) rfl ?_)))))))
    refine zLE (show fn11 [ρ 19] (γ 23) = (0, 0, γ 24) from l23.symm) (zLV (γ 24) rfl (zIN zQ0_ (zLE c25.symm (zLE (zF1_ok l24) (zLE c26.symm (zLE c27.symm ?_))))))
    rfl
  exact zGoo_end hD
theorem vn14_24 {S : Nat → zSpc} (hS6 : zIm S 6 sn6) (hS8 : zIm S 8 sn8) (hS11 : zIm S 11 sn11) {a : List Int} {g : rHp} : ∀ (ρ : Nat → Int) (γ : Nat → rHp), zO 4 S a g q14_24 ρ γ → zGl (fun i vs g1 => jn14 a g i vs g1) (sn14 a g) q14_24 ρ γ := by
  intro ρ γ h
  obtain ⟨ha, hg, hr, hf, hm, hc, hl⟩ := h
  have ha : a = [ρ 0, ρ 1, ρ 2, ρ 3] := ha
  subst ha
  subst hg
  have r4 : (45 : Int) ≤ ρ 4 ∧ ρ 4 ≤ 45 := zRnA hr 4
  have f0 : (0 : Int) ≤ ρ 1 + -ρ 0 + (-9) := zAllA hf 0
  obtain ⟨w_0, w_1, w_2, w_3, w_4, w_5, w_6, w_7, w_8⟩ : (¬ (ρ 4 ≠ 45)) ∧ (0 ≤ ρ 1 + -ρ 0 + (-2)) ∧ (0 ≤ ρ 1 + -ρ 0 + (-3)) ∧ (0 ≤ ρ 1 + -ρ 0 + (-4)) ∧ (0 ≤ ρ 1 + -ρ 0 + (-5)) ∧ (0 ≤ ρ 1 + -ρ 0 + (-6)) ∧ (0 ≤ ρ 1 + -ρ 0 + (-7)) ∧ (0 ≤ ρ 1 + -ρ 0 + (-8)) ∧ (0 ≤ ρ 1 + -ρ 0 + (-9)) := ⟨by omega, by omega, by omega, by omega, by omega, by omega, by omega, by omega, by omega⟩
  have m0 : γ 0 15 0 35 = ρ 0 := zAllA hm 0
  have m1 : γ 0 15 0 34 = ρ 1 := zAllA hm 1
  have l0 : sn6 [ρ 0, ρ 1] (γ 0) 0 (ρ 4) (γ 1) := hS6 _ _ _ _ _ (zAllA hl 0)
  have l1 : sn6 [ρ 0 + 1, ρ 1] (γ 1) 0 (ρ 5) (γ 2) := hS6 _ _ _ _ _ (zAllA hl 1)
  have l2 : sn11 [ρ 5] (γ 2) 0 1 (γ 3) := hS11 _ _ _ _ _ (zAllA hl 2)
  have l3 : sn6 [ρ 0 + 1, ρ 1] (γ 3) 0 (ρ 6) (γ 4) := hS6 _ _ _ _ _ (zAllA hl 3)
  have l4 : sn6 [ρ 0 + 2, ρ 1] (γ 4) 0 (ρ 7) (γ 5) := hS6 _ _ _ _ _ (zAllA hl 4)
  have l5 : sn11 [ρ 7] (γ 5) 0 1 (γ 6) := hS11 _ _ _ _ _ (zAllA hl 5)
  have l6 : sn6 [ρ 0 + 2, ρ 1] (γ 6) 0 (ρ 8) (γ 7) := hS6 _ _ _ _ _ (zAllA hl 6)
  have l7 : sn6 [ρ 0 + 3, ρ 1] (γ 7) 0 (ρ 9) (γ 8) := hS6 _ _ _ _ _ (zAllA hl 7)
  have l8 : sn11 [ρ 9] (γ 8) 0 1 (γ 9) := hS11 _ _ _ _ _ (zAllA hl 8)
  have l9 : sn6 [ρ 0 + 3, ρ 1] (γ 9) 0 (ρ 10) (γ 10) := hS6 _ _ _ _ _ (zAllA hl 9)
  have l10 : sn6 [ρ 0 + 4, ρ 1] (γ 10) 0 (ρ 11) (γ 11) := hS6 _ _ _ _ _ (zAllA hl 10)
  have l11 : sn11 [ρ 11] (γ 11) 0 1 (γ 12) := hS11 _ _ _ _ _ (zAllA hl 11)
  have l12 : sn6 [ρ 0 + 4, ρ 1] (γ 12) 0 (ρ 12) (γ 13) := hS6 _ _ _ _ _ (zAllA hl 12)
  have l13 : sn6 [ρ 0 + 5, ρ 1] (γ 13) 0 (ρ 13) (γ 14) := hS6 _ _ _ _ _ (zAllA hl 13)
  have l14 : sn11 [ρ 13] (γ 14) 0 1 (γ 15) := hS11 _ _ _ _ _ (zAllA hl 14)
  have l15 : sn6 [ρ 0 + 5, ρ 1] (γ 15) 0 (ρ 14) (γ 16) := hS6 _ _ _ _ _ (zAllA hl 15)
  have l16 : sn6 [ρ 0 + 6, ρ 1] (γ 16) 0 (ρ 15) (γ 17) := hS6 _ _ _ _ _ (zAllA hl 16)
  have l17 : sn11 [ρ 15] (γ 17) 0 1 (γ 18) := hS11 _ _ _ _ _ (zAllA hl 17)
  have l18 : sn6 [ρ 0 + 6, ρ 1] (γ 18) 0 (ρ 16) (γ 19) := hS6 _ _ _ _ _ (zAllA hl 18)
  have l19 : sn6 [ρ 0 + 7, ρ 1] (γ 19) 0 (ρ 17) (γ 20) := hS6 _ _ _ _ _ (zAllA hl 19)
  have l20 : sn11 [ρ 17] (γ 20) 0 1 (γ 21) := hS11 _ _ _ _ _ (zAllA hl 20)
  have l21 : sn6 [ρ 0 + 7, ρ 1] (γ 21) 0 (ρ 18) (γ 22) := hS6 _ _ _ _ _ (zAllA hl 21)
  have l22 : sn6 [ρ 0 + 8, ρ 1] (γ 22) 0 (ρ 19) (γ 23) := hS6 _ _ _ _ _ (zAllA hl 22)
  have l23 : sn11 [ρ 19] (γ 23) 0 1 (γ 24) := hS11 _ _ _ _ _ (zAllA hl 23)
  have l24 : sn6 [ρ 0 + 8, ρ 1] (γ 24) 0 (ρ 20) (γ 25) := hS6 _ _ _ _ _ (zAllA hl 24)
  show jn14 [ρ 0, ρ 1, ρ 2, ρ 3] (γ 0) 0 [ρ 0, ρ 1, ρ 2, ρ 3, ρ 0 + 9, ρ 20 + (10 * ρ 18 + (100 * ρ 16 + (1000 * ρ 14 + (10000 * ρ 12 + (100000 * ρ 10 + (1000000 * ρ 8 + 10000000 * ρ 6)))))) + (-533333328), ρ 0 + 1, 1] (γ 25)
  have hD : dn14 [] (γ 0) = .inl (0, [ρ 0 + 9, ρ 20 + (10 * ρ 18 + (100 * ρ 16 + (1000 * ρ 14 + (10000 * ρ 12 + (100000 * ρ 10 + (1000000 * ρ 8 + 10000000 * ρ 6)))))) + (-533333328), ρ 0 + 1, 1], γ 25) := by
    unfold dn14
    refine zLE m0 (zLE m1 (zLE (show fn6 [ρ 0] (γ 0) = (0, ρ 4, γ 1) from l0.symm) (zLV (γ 1) rfl (zLV (ρ 4) rfl (zIN w_0 (zLE (show fn6 [ρ 0 + 1] (γ 1) = (0, ρ 5, γ 2) from l1.symm) (zLV (γ 2) rfl ?_)))))))
    refine zIP w_1 (zLV (ρ 5) rfl (zLE (show fn11 [ρ 5] (γ 2) = (0, 1, γ 3) from l2.symm) (zLV (γ 3) rfl (zIP zQ1_ (zLE (show fn6 [ρ 0 + 1] (γ 3) = (0, ρ 6, γ 4) from l3.symm) (zLV (γ 4) rfl (zLV (ρ 6) rfl ?_)))))))
    refine zLE (show fn6 [ρ 0 + 2] (γ 4) = (0, ρ 7, γ 5) from l4.symm) (zLV (γ 5) rfl (zIP w_2 (zLV (ρ 7) rfl (zLE (show fn11 [ρ 7] (γ 5) = (0, 1, γ 6) from l5.symm) (zLV (γ 6) rfl (zIP zQ1_ (zLE (show fn6 [ρ 0 + 2] (γ 6) = (0, ρ 8, γ 7) from l6.symm) ?_)))))))
    refine zLV (γ 7) rfl (zLV (ρ 8) rfl (zLE (show fn6 [ρ 0 + 3] (γ 7) = (0, ρ 9, γ 8) from l7.symm) (zLV (γ 8) rfl (zIP w_3 (zLV (ρ 9) rfl (zLE (show fn11 [ρ 9] (γ 8) = (0, 1, γ 9) from l8.symm) (zLV (γ 9) rfl ?_)))))))
    refine zIP zQ1_ (zLE (show fn6 [ρ 0 + 3] (γ 9) = (0, ρ 10, γ 10) from l9.symm) (zLV (γ 10) rfl (zLV (ρ 10) rfl (zLE (show fn6 [ρ 0 + 4] (γ 10) = (0, ρ 11, γ 11) from l10.symm) (zLV (γ 11) rfl (zIP w_4 (zLV (ρ 11) rfl ?_)))))))
    refine zLE (show fn11 [ρ 11] (γ 11) = (0, 1, γ 12) from l11.symm) (zLV (γ 12) rfl (zIP zQ1_ (zLE (show fn6 [ρ 0 + 4] (γ 12) = (0, ρ 12, γ 13) from l12.symm) (zLV (γ 13) rfl (zLV (ρ 12) rfl (zLE (show fn6 [ρ 0 + 5] (γ 13) = (0, ρ 13, γ 14) from l13.symm) (zLV (γ 14) rfl ?_)))))))
    refine zIP w_5 (zLV (ρ 13) rfl (zLE (show fn11 [ρ 13] (γ 14) = (0, 1, γ 15) from l14.symm) (zLV (γ 15) rfl (zIP zQ1_ (zLE (show fn6 [ρ 0 + 5] (γ 15) = (0, ρ 14, γ 16) from l15.symm) (zLV (γ 16) rfl (zLV (ρ 14) rfl ?_)))))))
    refine zLE (show fn6 [ρ 0 + 6] (γ 16) = (0, ρ 15, γ 17) from l16.symm) (zLV (γ 17) rfl (zIP w_6 (zLV (ρ 15) rfl (zLE (show fn11 [ρ 15] (γ 17) = (0, 1, γ 18) from l17.symm) (zLV (γ 18) rfl (zIP zQ1_ (zLE (show fn6 [ρ 0 + 6] (γ 18) = (0, ρ 16, γ 19) from l18.symm) ?_)))))))
    refine zLV (γ 19) rfl (zLV (ρ 16) rfl (zLE (show fn6 [ρ 0 + 7] (γ 19) = (0, ρ 17, γ 20) from l19.symm) (zLV (γ 20) rfl (zIP w_7 (zLV (ρ 17) rfl (zLE (show fn11 [ρ 17] (γ 20) = (0, 1, γ 21) from l20.symm) (zLV (γ 21) rfl ?_)))))))
    refine zIP zQ1_ (zLE (show fn6 [ρ 0 + 7] (γ 21) = (0, ρ 18, γ 22) from l21.symm) (zLV (γ 22) rfl (zLV (ρ 18) rfl (zLE (show fn6 [ρ 0 + 8] (γ 22) = (0, ρ 19, γ 23) from l22.symm) (zLV (γ 23) rfl (zIP w_8 (zLV (ρ 19) rfl ?_)))))))
    refine zLE (show fn11 [ρ 19] (γ 23) = (0, 1, γ 24) from l23.symm) (zLV (γ 24) rfl (zIP zQ1_ (zLE (show fn6 [ρ 0 + 8] (γ 24) = (0, ρ 20, γ 25) from l24.symm) (zLV (γ 25) rfl (zLV (ρ 20) rfl ?_)))))
    rfl
  exact zGoo_to hD
theorem vn14_25 {S : Nat → zSpc} (hS6 : zIm S 6 sn6) (hS8 : zIm S 8 sn8) (hS11 : zIm S 11 sn11) {a : List Int} {g : rHp} : ∀ (ρ : Nat → Int) (γ : Nat → rHp), zO 4 S a g q14_25 ρ γ → zGl (fun i vs g1 => jn14 a g i vs g1) (sn14 a g) q14_25 ρ γ := by
  intro ρ γ h
  obtain ⟨ha, hg, hr, hf, hm, hc, hl⟩ := h
  have ha : a = [ρ 0, ρ 1, ρ 2, ρ 3] := ha
  subst ha
  subst hg
  have r4 : (45 : Int) ≤ ρ 4 ∧ ρ 4 ≤ 45 := zRnA hr 4
  have f0 : (0 : Int) ≤ -ρ 1 + ρ 0 + 8 := zAllA hf 0
  have f1 : (0 : Int) ≤ ρ 1 + -ρ 0 + (-8) := zAllA hf 1
  obtain ⟨w_0, w_1, w_2, w_3, w_4, w_5, w_6, w_7, w_8⟩ : (¬ (ρ 4 ≠ 45)) ∧ (0 ≤ ρ 1 + -ρ 0 + (-2)) ∧ (0 ≤ ρ 1 + -ρ 0 + (-3)) ∧ (0 ≤ ρ 1 + -ρ 0 + (-4)) ∧ (0 ≤ ρ 1 + -ρ 0 + (-5)) ∧ (0 ≤ ρ 1 + -ρ 0 + (-6)) ∧ (0 ≤ ρ 1 + -ρ 0 + (-7)) ∧ (0 ≤ ρ 1 + -ρ 0 + (-8)) ∧ (¬ (0 ≤ ρ 1 + -ρ 0 + (-9))) := ⟨by omega, by omega, by omega, by omega, by omega, by omega, by omega, by omega, by omega⟩
  have m0 : γ 0 15 0 35 = ρ 0 := zAllA hm 0
  have m1 : γ 0 15 0 34 = ρ 1 := zAllA hm 1
  have c25 : γ 25 = rUp (γ 24) 15 0 35 (ρ 0 + 8) := And.right (zChA hc 2)
  have c26 : γ 26 = rUp (γ 25) 15 0 39 (ρ 19) := And.right (zChA hc 1)
  have c27 : γ 27 = rUp (γ 26) 15 0 40 0 := And.right (zChA hc 0)
  have l0 : sn6 [ρ 0, ρ 1] (γ 0) 0 (ρ 4) (γ 1) := hS6 _ _ _ _ _ (zAllA hl 0)
  have l1 : sn6 [ρ 0 + 1, ρ 1] (γ 1) 0 (ρ 5) (γ 2) := hS6 _ _ _ _ _ (zAllA hl 1)
  have l2 : sn11 [ρ 5] (γ 2) 0 1 (γ 3) := hS11 _ _ _ _ _ (zAllA hl 2)
  have l3 : sn6 [ρ 0 + 1, ρ 1] (γ 3) 0 (ρ 6) (γ 4) := hS6 _ _ _ _ _ (zAllA hl 3)
  have l4 : sn6 [ρ 0 + 2, ρ 1] (γ 4) 0 (ρ 7) (γ 5) := hS6 _ _ _ _ _ (zAllA hl 4)
  have l5 : sn11 [ρ 7] (γ 5) 0 1 (γ 6) := hS11 _ _ _ _ _ (zAllA hl 5)
  have l6 : sn6 [ρ 0 + 2, ρ 1] (γ 6) 0 (ρ 8) (γ 7) := hS6 _ _ _ _ _ (zAllA hl 6)
  have l7 : sn6 [ρ 0 + 3, ρ 1] (γ 7) 0 (ρ 9) (γ 8) := hS6 _ _ _ _ _ (zAllA hl 7)
  have l8 : sn11 [ρ 9] (γ 8) 0 1 (γ 9) := hS11 _ _ _ _ _ (zAllA hl 8)
  have l9 : sn6 [ρ 0 + 3, ρ 1] (γ 9) 0 (ρ 10) (γ 10) := hS6 _ _ _ _ _ (zAllA hl 9)
  have l10 : sn6 [ρ 0 + 4, ρ 1] (γ 10) 0 (ρ 11) (γ 11) := hS6 _ _ _ _ _ (zAllA hl 10)
  have l11 : sn11 [ρ 11] (γ 11) 0 1 (γ 12) := hS11 _ _ _ _ _ (zAllA hl 11)
  have l12 : sn6 [ρ 0 + 4, ρ 1] (γ 12) 0 (ρ 12) (γ 13) := hS6 _ _ _ _ _ (zAllA hl 12)
  have l13 : sn6 [ρ 0 + 5, ρ 1] (γ 13) 0 (ρ 13) (γ 14) := hS6 _ _ _ _ _ (zAllA hl 13)
  have l14 : sn11 [ρ 13] (γ 14) 0 1 (γ 15) := hS11 _ _ _ _ _ (zAllA hl 14)
  have l15 : sn6 [ρ 0 + 5, ρ 1] (γ 15) 0 (ρ 14) (γ 16) := hS6 _ _ _ _ _ (zAllA hl 15)
  have l16 : sn6 [ρ 0 + 6, ρ 1] (γ 16) 0 (ρ 15) (γ 17) := hS6 _ _ _ _ _ (zAllA hl 16)
  have l17 : sn11 [ρ 15] (γ 17) 0 1 (γ 18) := hS11 _ _ _ _ _ (zAllA hl 17)
  have l18 : sn6 [ρ 0 + 6, ρ 1] (γ 18) 0 (ρ 16) (γ 19) := hS6 _ _ _ _ _ (zAllA hl 18)
  have l19 : sn6 [ρ 0 + 7, ρ 1] (γ 19) 0 (ρ 17) (γ 20) := hS6 _ _ _ _ _ (zAllA hl 19)
  have l20 : sn11 [ρ 17] (γ 20) 0 1 (γ 21) := hS11 _ _ _ _ _ (zAllA hl 20)
  have l21 : sn6 [ρ 0 + 7, ρ 1] (γ 21) 0 (ρ 18) (γ 22) := hS6 _ _ _ _ _ (zAllA hl 21)
  have l22 : sn6 [ρ 0 + 8, ρ 1] (γ 22) 0 (-1) (γ 23) := hS6 _ _ _ _ _ (zAllA hl 22)
  have l23 : sn11 [(-1)] (γ 23) 0 0 (γ 24) := hS11 _ _ _ _ _ (zAllA hl 23)
  have l24 : zOpP (.lneg) (γ 0) (γ 1) [ρ 18 + (10 * ρ 16 + (100 * ρ 14 + (1000 * ρ 12 + (10000 * ρ 10 + (100000 * ρ 8 + 1000000 * ρ 6))))) + (-53333328)] (ρ 19) := zAllA hl 24
  show sn14 [ρ 0, ρ 1, ρ 2, ρ 3] (γ 0) 0 1 (γ 27)
  have hD : dn14 [] (γ 0) = .inr (0, 1, γ 27) := by
    unfold dn14
    refine zLE m0 (zLE m1 (zLE (show fn6 [ρ 0] (γ 0) = (0, ρ 4, γ 1) from l0.symm) (zLV (γ 1) rfl (zLV (ρ 4) rfl (zIN w_0 (zLE (show fn6 [ρ 0 + 1] (γ 1) = (0, ρ 5, γ 2) from l1.symm) (zLV (γ 2) rfl ?_)))))))
    refine zIP w_1 (zLV (ρ 5) rfl (zLE (show fn11 [ρ 5] (γ 2) = (0, 1, γ 3) from l2.symm) (zLV (γ 3) rfl (zIP zQ1_ (zLE (show fn6 [ρ 0 + 1] (γ 3) = (0, ρ 6, γ 4) from l3.symm) (zLV (γ 4) rfl (zLV (ρ 6) rfl ?_)))))))
    refine zLE (show fn6 [ρ 0 + 2] (γ 4) = (0, ρ 7, γ 5) from l4.symm) (zLV (γ 5) rfl (zIP w_2 (zLV (ρ 7) rfl (zLE (show fn11 [ρ 7] (γ 5) = (0, 1, γ 6) from l5.symm) (zLV (γ 6) rfl (zIP zQ1_ (zLE (show fn6 [ρ 0 + 2] (γ 6) = (0, ρ 8, γ 7) from l6.symm) ?_)))))))
    refine zLV (γ 7) rfl (zLV (ρ 8) rfl (zLE (show fn6 [ρ 0 + 3] (γ 7) = (0, ρ 9, γ 8) from l7.symm) (zLV (γ 8) rfl (zIP w_3 (zLV (ρ 9) rfl (zLE (show fn11 [ρ 9] (γ 8) = (0, 1, γ 9) from l8.symm) (zLV (γ 9) rfl ?_)))))))
    refine zIP zQ1_ (zLE (show fn6 [ρ 0 + 3] (γ 9) = (0, ρ 10, γ 10) from l9.symm) (zLV (γ 10) rfl (zLV (ρ 10) rfl (zLE (show fn6 [ρ 0 + 4] (γ 10) = (0, ρ 11, γ 11) from l10.symm) (zLV (γ 11) rfl (zIP w_4 (zLV (ρ 11) rfl ?_)))))))
    refine zLE (show fn11 [ρ 11] (γ 11) = (0, 1, γ 12) from l11.symm) (zLV (γ 12) rfl (zIP zQ1_ (zLE (show fn6 [ρ 0 + 4] (γ 12) = (0, ρ 12, γ 13) from l12.symm) (zLV (γ 13) rfl (zLV (ρ 12) rfl (zLE (show fn6 [ρ 0 + 5] (γ 13) = (0, ρ 13, γ 14) from l13.symm) (zLV (γ 14) rfl ?_)))))))
    refine zIP w_5 (zLV (ρ 13) rfl (zLE (show fn11 [ρ 13] (γ 14) = (0, 1, γ 15) from l14.symm) (zLV (γ 15) rfl (zIP zQ1_ (zLE (show fn6 [ρ 0 + 5] (γ 15) = (0, ρ 14, γ 16) from l15.symm) (zLV (γ 16) rfl (zLV (ρ 14) rfl ?_)))))))
    refine zLE (show fn6 [ρ 0 + 6] (γ 16) = (0, ρ 15, γ 17) from l16.symm) (zLV (γ 17) rfl (zIP w_6 (zLV (ρ 15) rfl (zLE (show fn11 [ρ 15] (γ 17) = (0, 1, γ 18) from l17.symm) (zLV (γ 18) rfl (zIP zQ1_ (zLE (show fn6 [ρ 0 + 6] (γ 18) = (0, ρ 16, γ 19) from l18.symm) ?_)))))))
    refine zLV (γ 19) rfl (zLV (ρ 16) rfl (zLE (show fn6 [ρ 0 + 7] (γ 19) = (0, ρ 17, γ 20) from l19.symm) (zLV (γ 20) rfl (zIP w_7 (zLV (ρ 17) rfl (zLE (show fn11 [ρ 17] (γ 20) = (0, 1, γ 21) from l20.symm) (zLV (γ 21) rfl ?_)))))))
    refine zIP zQ1_ (zLE (show fn6 [ρ 0 + 7] (γ 21) = (0, ρ 18, γ 22) from l21.symm) (zLV (γ 22) rfl (zLV (ρ 18) rfl (zLE (show fn6 [ρ 0 + 8] (γ 22) = (0, (-1), γ 23) from l22.symm) (zLV (γ 23) rfl (zIN w_8 (zLE (show fn11 [(-1)] (γ 23) = (0, 0, γ 24) from l23.symm) ?_)))))))
    refine zLV (γ 24) rfl (zLE c25.symm (zLE (zF1_ok l24) (zLE c26.symm (zLE c27.symm ?_))))
    rfl
  exact zGoo_end hD
theorem vn14_26 {S : Nat → zSpc} (hS6 : zIm S 6 sn6) (hS8 : zIm S 8 sn8) (hS11 : zIm S 11 sn11) {a : List Int} {g : rHp} : ∀ (ρ : Nat → Int) (γ : Nat → rHp), zO 4 S a g q14_26 ρ γ → zGl (fun i vs g1 => jn14 a g i vs g1) (sn14 a g) q14_26 ρ γ := by
  intro ρ γ h
  obtain ⟨ha, hg, hr, hf, hm, hc, hl⟩ := h
  have ha : a = [ρ 0, ρ 1, ρ 2, ρ 3] := ha
  subst ha
  subst hg
  have r4 : (45 : Int) ≤ ρ 4 ∧ ρ 4 ≤ 45 := zRnA hr 4
  have f0 : (0 : Int) ≤ -ρ 1 + ρ 0 + 7 := zAllA hf 0
  have f1 : (0 : Int) ≤ ρ 1 + -ρ 0 + (-7) := zAllA hf 1
  obtain ⟨w_0, w_1, w_2, w_3, w_4, w_5, w_6, w_7⟩ : (¬ (ρ 4 ≠ 45)) ∧ (0 ≤ ρ 1 + -ρ 0 + (-2)) ∧ (0 ≤ ρ 1 + -ρ 0 + (-3)) ∧ (0 ≤ ρ 1 + -ρ 0 + (-4)) ∧ (0 ≤ ρ 1 + -ρ 0 + (-5)) ∧ (0 ≤ ρ 1 + -ρ 0 + (-6)) ∧ (0 ≤ ρ 1 + -ρ 0 + (-7)) ∧ (¬ (0 ≤ ρ 1 + -ρ 0 + (-8))) := ⟨by omega, by omega, by omega, by omega, by omega, by omega, by omega, by omega⟩
  have m0 : γ 0 15 0 35 = ρ 0 := zAllA hm 0
  have m1 : γ 0 15 0 34 = ρ 1 := zAllA hm 1
  have c22 : γ 22 = rUp (γ 21) 15 0 35 (ρ 0 + 7) := And.right (zChA hc 2)
  have c23 : γ 23 = rUp (γ 22) 15 0 39 (ρ 17) := And.right (zChA hc 1)
  have c24 : γ 24 = rUp (γ 23) 15 0 40 0 := And.right (zChA hc 0)
  have l0 : sn6 [ρ 0, ρ 1] (γ 0) 0 (ρ 4) (γ 1) := hS6 _ _ _ _ _ (zAllA hl 0)
  have l1 : sn6 [ρ 0 + 1, ρ 1] (γ 1) 0 (ρ 5) (γ 2) := hS6 _ _ _ _ _ (zAllA hl 1)
  have l2 : sn11 [ρ 5] (γ 2) 0 1 (γ 3) := hS11 _ _ _ _ _ (zAllA hl 2)
  have l3 : sn6 [ρ 0 + 1, ρ 1] (γ 3) 0 (ρ 6) (γ 4) := hS6 _ _ _ _ _ (zAllA hl 3)
  have l4 : sn6 [ρ 0 + 2, ρ 1] (γ 4) 0 (ρ 7) (γ 5) := hS6 _ _ _ _ _ (zAllA hl 4)
  have l5 : sn11 [ρ 7] (γ 5) 0 1 (γ 6) := hS11 _ _ _ _ _ (zAllA hl 5)
  have l6 : sn6 [ρ 0 + 2, ρ 1] (γ 6) 0 (ρ 8) (γ 7) := hS6 _ _ _ _ _ (zAllA hl 6)
  have l7 : sn6 [ρ 0 + 3, ρ 1] (γ 7) 0 (ρ 9) (γ 8) := hS6 _ _ _ _ _ (zAllA hl 7)
  have l8 : sn11 [ρ 9] (γ 8) 0 1 (γ 9) := hS11 _ _ _ _ _ (zAllA hl 8)
  have l9 : sn6 [ρ 0 + 3, ρ 1] (γ 9) 0 (ρ 10) (γ 10) := hS6 _ _ _ _ _ (zAllA hl 9)
  have l10 : sn6 [ρ 0 + 4, ρ 1] (γ 10) 0 (ρ 11) (γ 11) := hS6 _ _ _ _ _ (zAllA hl 10)
  have l11 : sn11 [ρ 11] (γ 11) 0 1 (γ 12) := hS11 _ _ _ _ _ (zAllA hl 11)
  have l12 : sn6 [ρ 0 + 4, ρ 1] (γ 12) 0 (ρ 12) (γ 13) := hS6 _ _ _ _ _ (zAllA hl 12)
  have l13 : sn6 [ρ 0 + 5, ρ 1] (γ 13) 0 (ρ 13) (γ 14) := hS6 _ _ _ _ _ (zAllA hl 13)
  have l14 : sn11 [ρ 13] (γ 14) 0 1 (γ 15) := hS11 _ _ _ _ _ (zAllA hl 14)
  have l15 : sn6 [ρ 0 + 5, ρ 1] (γ 15) 0 (ρ 14) (γ 16) := hS6 _ _ _ _ _ (zAllA hl 15)
  have l16 : sn6 [ρ 0 + 6, ρ 1] (γ 16) 0 (ρ 15) (γ 17) := hS6 _ _ _ _ _ (zAllA hl 16)
  have l17 : sn11 [ρ 15] (γ 17) 0 1 (γ 18) := hS11 _ _ _ _ _ (zAllA hl 17)
  have l18 : sn6 [ρ 0 + 6, ρ 1] (γ 18) 0 (ρ 16) (γ 19) := hS6 _ _ _ _ _ (zAllA hl 18)
  have l19 : sn6 [ρ 0 + 7, ρ 1] (γ 19) 0 (-1) (γ 20) := hS6 _ _ _ _ _ (zAllA hl 19)
  have l20 : sn11 [(-1)] (γ 20) 0 0 (γ 21) := hS11 _ _ _ _ _ (zAllA hl 20)
  have l21 : zOpP (.lneg) (γ 0) (γ 1) [ρ 16 + (10 * ρ 14 + (100 * ρ 12 + (1000 * ρ 10 + (10000 * ρ 8 + 100000 * ρ 6)))) + (-5333328)] (ρ 17) := zAllA hl 21
  show sn14 [ρ 0, ρ 1, ρ 2, ρ 3] (γ 0) 0 1 (γ 24)
  have hD : dn14 [] (γ 0) = .inr (0, 1, γ 24) := by
    unfold dn14
    refine zLE m0 (zLE m1 (zLE (show fn6 [ρ 0] (γ 0) = (0, ρ 4, γ 1) from l0.symm) (zLV (γ 1) rfl (zLV (ρ 4) rfl (zIN w_0 (zLE (show fn6 [ρ 0 + 1] (γ 1) = (0, ρ 5, γ 2) from l1.symm) (zLV (γ 2) rfl ?_)))))))
    refine zIP w_1 (zLV (ρ 5) rfl (zLE (show fn11 [ρ 5] (γ 2) = (0, 1, γ 3) from l2.symm) (zLV (γ 3) rfl (zIP zQ1_ (zLE (show fn6 [ρ 0 + 1] (γ 3) = (0, ρ 6, γ 4) from l3.symm) (zLV (γ 4) rfl (zLV (ρ 6) rfl ?_)))))))
    refine zLE (show fn6 [ρ 0 + 2] (γ 4) = (0, ρ 7, γ 5) from l4.symm) (zLV (γ 5) rfl (zIP w_2 (zLV (ρ 7) rfl (zLE (show fn11 [ρ 7] (γ 5) = (0, 1, γ 6) from l5.symm) (zLV (γ 6) rfl (zIP zQ1_ (zLE (show fn6 [ρ 0 + 2] (γ 6) = (0, ρ 8, γ 7) from l6.symm) ?_)))))))
    refine zLV (γ 7) rfl (zLV (ρ 8) rfl (zLE (show fn6 [ρ 0 + 3] (γ 7) = (0, ρ 9, γ 8) from l7.symm) (zLV (γ 8) rfl (zIP w_3 (zLV (ρ 9) rfl (zLE (show fn11 [ρ 9] (γ 8) = (0, 1, γ 9) from l8.symm) (zLV (γ 9) rfl ?_)))))))
    refine zIP zQ1_ (zLE (show fn6 [ρ 0 + 3] (γ 9) = (0, ρ 10, γ 10) from l9.symm) (zLV (γ 10) rfl (zLV (ρ 10) rfl (zLE (show fn6 [ρ 0 + 4] (γ 10) = (0, ρ 11, γ 11) from l10.symm) (zLV (γ 11) rfl (zIP w_4 (zLV (ρ 11) rfl ?_)))))))
    refine zLE (show fn11 [ρ 11] (γ 11) = (0, 1, γ 12) from l11.symm) (zLV (γ 12) rfl (zIP zQ1_ (zLE (show fn6 [ρ 0 + 4] (γ 12) = (0, ρ 12, γ 13) from l12.symm) (zLV (γ 13) rfl (zLV (ρ 12) rfl (zLE (show fn6 [ρ 0 + 5] (γ 13) = (0, ρ 13, γ 14) from l13.symm) (zLV (γ 14) rfl ?_)))))))
    refine zIP w_5 (zLV (ρ 13) rfl (zLE (show fn11 [ρ 13] (γ 14) = (0, 1, γ 15) from l14.symm) (zLV (γ 15) rfl (zIP zQ1_ (zLE (show fn6 [ρ 0 + 5] (γ 15) = (0, ρ 14, γ 16) from l15.symm) (zLV (γ 16) rfl (zLV (ρ 14) rfl ?_)))))))
    refine zLE (show fn6 [ρ 0 + 6] (γ 16) = (0, ρ 15, γ 17) from l16.symm) (zLV (γ 17) rfl (zIP w_6 (zLV (ρ 15) rfl (zLE (show fn11 [ρ 15] (γ 17) = (0, 1, γ 18) from l17.symm) (zLV (γ 18) rfl (zIP zQ1_ (zLE (show fn6 [ρ 0 + 6] (γ 18) = (0, ρ 16, γ 19) from l18.symm) ?_)))))))
    refine zLV (γ 19) rfl (zLV (ρ 16) rfl (zLE (show fn6 [ρ 0 + 7] (γ 19) = (0, (-1), γ 20) from l19.symm) (zLV (γ 20) rfl (zIN w_7 (zLE (show fn11 [(-1)] (γ 20) = (0, 0, γ 21) from l20.symm) (zLV (γ 21) rfl (zLE c22.symm ?_)))))))
    refine zLE (zF1_ok l21) (zLE c23.symm (zLE c24.symm ?_))
    rfl
  exact zGoo_end hD
theorem vn14_27 {S : Nat → zSpc} (hS6 : zIm S 6 sn6) (hS8 : zIm S 8 sn8) (hS11 : zIm S 11 sn11) {a : List Int} {g : rHp} : ∀ (ρ : Nat → Int) (γ : Nat → rHp), zO 4 S a g q14_27 ρ γ → zGl (fun i vs g1 => jn14 a g i vs g1) (sn14 a g) q14_27 ρ γ := by
  intro ρ γ h
  obtain ⟨ha, hg, hr, hf, hm, hc, hl⟩ := h
  have ha : a = [ρ 0, ρ 1, ρ 2, ρ 3] := ha
  subst ha
  subst hg
  have r4 : (45 : Int) ≤ ρ 4 ∧ ρ 4 ≤ 45 := zRnA hr 4
  have f0 : (0 : Int) ≤ -ρ 1 + ρ 0 + 6 := zAllA hf 0
  have f1 : (0 : Int) ≤ ρ 1 + -ρ 0 + (-6) := zAllA hf 1
  obtain ⟨w_0, w_1, w_2, w_3, w_4, w_5, w_6⟩ : (¬ (ρ 4 ≠ 45)) ∧ (0 ≤ ρ 1 + -ρ 0 + (-2)) ∧ (0 ≤ ρ 1 + -ρ 0 + (-3)) ∧ (0 ≤ ρ 1 + -ρ 0 + (-4)) ∧ (0 ≤ ρ 1 + -ρ 0 + (-5)) ∧ (0 ≤ ρ 1 + -ρ 0 + (-6)) ∧ (¬ (0 ≤ ρ 1 + -ρ 0 + (-7))) := ⟨by omega, by omega, by omega, by omega, by omega, by omega, by omega⟩
  have m0 : γ 0 15 0 35 = ρ 0 := zAllA hm 0
  have m1 : γ 0 15 0 34 = ρ 1 := zAllA hm 1
  have c19 : γ 19 = rUp (γ 18) 15 0 35 (ρ 0 + 6) := And.right (zChA hc 2)
  have c20 : γ 20 = rUp (γ 19) 15 0 39 (ρ 15) := And.right (zChA hc 1)
  have c21 : γ 21 = rUp (γ 20) 15 0 40 0 := And.right (zChA hc 0)
  have l0 : sn6 [ρ 0, ρ 1] (γ 0) 0 (ρ 4) (γ 1) := hS6 _ _ _ _ _ (zAllA hl 0)
  have l1 : sn6 [ρ 0 + 1, ρ 1] (γ 1) 0 (ρ 5) (γ 2) := hS6 _ _ _ _ _ (zAllA hl 1)
  have l2 : sn11 [ρ 5] (γ 2) 0 1 (γ 3) := hS11 _ _ _ _ _ (zAllA hl 2)
  have l3 : sn6 [ρ 0 + 1, ρ 1] (γ 3) 0 (ρ 6) (γ 4) := hS6 _ _ _ _ _ (zAllA hl 3)
  have l4 : sn6 [ρ 0 + 2, ρ 1] (γ 4) 0 (ρ 7) (γ 5) := hS6 _ _ _ _ _ (zAllA hl 4)
  have l5 : sn11 [ρ 7] (γ 5) 0 1 (γ 6) := hS11 _ _ _ _ _ (zAllA hl 5)
  have l6 : sn6 [ρ 0 + 2, ρ 1] (γ 6) 0 (ρ 8) (γ 7) := hS6 _ _ _ _ _ (zAllA hl 6)
  have l7 : sn6 [ρ 0 + 3, ρ 1] (γ 7) 0 (ρ 9) (γ 8) := hS6 _ _ _ _ _ (zAllA hl 7)
  have l8 : sn11 [ρ 9] (γ 8) 0 1 (γ 9) := hS11 _ _ _ _ _ (zAllA hl 8)
  have l9 : sn6 [ρ 0 + 3, ρ 1] (γ 9) 0 (ρ 10) (γ 10) := hS6 _ _ _ _ _ (zAllA hl 9)
  have l10 : sn6 [ρ 0 + 4, ρ 1] (γ 10) 0 (ρ 11) (γ 11) := hS6 _ _ _ _ _ (zAllA hl 10)
  have l11 : sn11 [ρ 11] (γ 11) 0 1 (γ 12) := hS11 _ _ _ _ _ (zAllA hl 11)
  have l12 : sn6 [ρ 0 + 4, ρ 1] (γ 12) 0 (ρ 12) (γ 13) := hS6 _ _ _ _ _ (zAllA hl 12)
  have l13 : sn6 [ρ 0 + 5, ρ 1] (γ 13) 0 (ρ 13) (γ 14) := hS6 _ _ _ _ _ (zAllA hl 13)
  have l14 : sn11 [ρ 13] (γ 14) 0 1 (γ 15) := hS11 _ _ _ _ _ (zAllA hl 14)
  have l15 : sn6 [ρ 0 + 5, ρ 1] (γ 15) 0 (ρ 14) (γ 16) := hS6 _ _ _ _ _ (zAllA hl 15)
  have l16 : sn6 [ρ 0 + 6, ρ 1] (γ 16) 0 (-1) (γ 17) := hS6 _ _ _ _ _ (zAllA hl 16)
  have l17 : sn11 [(-1)] (γ 17) 0 0 (γ 18) := hS11 _ _ _ _ _ (zAllA hl 17)
  have l18 : zOpP (.lneg) (γ 0) (γ 1) [ρ 14 + (10 * ρ 12 + (100 * ρ 10 + (1000 * ρ 8 + 10000 * ρ 6))) + (-533328)] (ρ 15) := zAllA hl 18
  show sn14 [ρ 0, ρ 1, ρ 2, ρ 3] (γ 0) 0 1 (γ 21)
  have hD : dn14 [] (γ 0) = .inr (0, 1, γ 21) := by
    unfold dn14
    refine zLE m0 (zLE m1 (zLE (show fn6 [ρ 0] (γ 0) = (0, ρ 4, γ 1) from l0.symm) (zLV (γ 1) rfl (zLV (ρ 4) rfl (zIN w_0 (zLE (show fn6 [ρ 0 + 1] (γ 1) = (0, ρ 5, γ 2) from l1.symm) (zLV (γ 2) rfl ?_)))))))
    refine zIP w_1 (zLV (ρ 5) rfl (zLE (show fn11 [ρ 5] (γ 2) = (0, 1, γ 3) from l2.symm) (zLV (γ 3) rfl (zIP zQ1_ (zLE (show fn6 [ρ 0 + 1] (γ 3) = (0, ρ 6, γ 4) from l3.symm) (zLV (γ 4) rfl (zLV (ρ 6) rfl ?_)))))))
    refine zLE (show fn6 [ρ 0 + 2] (γ 4) = (0, ρ 7, γ 5) from l4.symm) (zLV (γ 5) rfl (zIP w_2 (zLV (ρ 7) rfl (zLE (show fn11 [ρ 7] (γ 5) = (0, 1, γ 6) from l5.symm) (zLV (γ 6) rfl (zIP zQ1_ (zLE (show fn6 [ρ 0 + 2] (γ 6) = (0, ρ 8, γ 7) from l6.symm) ?_)))))))
    refine zLV (γ 7) rfl (zLV (ρ 8) rfl (zLE (show fn6 [ρ 0 + 3] (γ 7) = (0, ρ 9, γ 8) from l7.symm) (zLV (γ 8) rfl (zIP w_3 (zLV (ρ 9) rfl (zLE (show fn11 [ρ 9] (γ 8) = (0, 1, γ 9) from l8.symm) (zLV (γ 9) rfl ?_)))))))
    refine zIP zQ1_ (zLE (show fn6 [ρ 0 + 3] (γ 9) = (0, ρ 10, γ 10) from l9.symm) (zLV (γ 10) rfl (zLV (ρ 10) rfl (zLE (show fn6 [ρ 0 + 4] (γ 10) = (0, ρ 11, γ 11) from l10.symm) (zLV (γ 11) rfl (zIP w_4 (zLV (ρ 11) rfl ?_)))))))
    refine zLE (show fn11 [ρ 11] (γ 11) = (0, 1, γ 12) from l11.symm) (zLV (γ 12) rfl (zIP zQ1_ (zLE (show fn6 [ρ 0 + 4] (γ 12) = (0, ρ 12, γ 13) from l12.symm) (zLV (γ 13) rfl (zLV (ρ 12) rfl (zLE (show fn6 [ρ 0 + 5] (γ 13) = (0, ρ 13, γ 14) from l13.symm) (zLV (γ 14) rfl ?_)))))))
    refine zIP w_5 (zLV (ρ 13) rfl (zLE (show fn11 [ρ 13] (γ 14) = (0, 1, γ 15) from l14.symm) (zLV (γ 15) rfl (zIP zQ1_ (zLE (show fn6 [ρ 0 + 5] (γ 15) = (0, ρ 14, γ 16) from l15.symm) (zLV (γ 16) rfl (zLV (ρ 14) rfl ?_)))))))
    refine zLE (show fn6 [ρ 0 + 6] (γ 16) = (0, (-1), γ 17) from l16.symm) (zLV (γ 17) rfl (zIN w_6 (zLE (show fn11 [(-1)] (γ 17) = (0, 0, γ 18) from l17.symm) (zLV (γ 18) rfl (zLE c19.symm (zLE (zF1_ok l18) (zLE c20.symm ?_)))))))
    refine zLE c21.symm ?_
    rfl
  exact zGoo_end hD
theorem vn14_28 {S : Nat → zSpc} (hS6 : zIm S 6 sn6) (hS8 : zIm S 8 sn8) (hS11 : zIm S 11 sn11) {a : List Int} {g : rHp} : ∀ (ρ : Nat → Int) (γ : Nat → rHp), zO 4 S a g q14_28 ρ γ → zGl (fun i vs g1 => jn14 a g i vs g1) (sn14 a g) q14_28 ρ γ := by
  intro ρ γ h
  obtain ⟨ha, hg, hr, hf, hm, hc, hl⟩ := h
  have ha : a = [ρ 0, ρ 1, ρ 2, ρ 3] := ha
  subst ha
  subst hg
  have r4 : (45 : Int) ≤ ρ 4 ∧ ρ 4 ≤ 45 := zRnA hr 4
  have f0 : (0 : Int) ≤ -ρ 1 + ρ 0 + 5 := zAllA hf 0
  have f1 : (0 : Int) ≤ ρ 1 + -ρ 0 + (-5) := zAllA hf 1
  obtain ⟨w_0, w_1, w_2, w_3, w_4, w_5⟩ : (¬ (ρ 4 ≠ 45)) ∧ (0 ≤ ρ 1 + -ρ 0 + (-2)) ∧ (0 ≤ ρ 1 + -ρ 0 + (-3)) ∧ (0 ≤ ρ 1 + -ρ 0 + (-4)) ∧ (0 ≤ ρ 1 + -ρ 0 + (-5)) ∧ (¬ (0 ≤ ρ 1 + -ρ 0 + (-6))) := ⟨by omega, by omega, by omega, by omega, by omega, by omega⟩
  have m0 : γ 0 15 0 35 = ρ 0 := zAllA hm 0
  have m1 : γ 0 15 0 34 = ρ 1 := zAllA hm 1
  have c16 : γ 16 = rUp (γ 15) 15 0 35 (ρ 0 + 5) := And.right (zChA hc 2)
  have c17 : γ 17 = rUp (γ 16) 15 0 39 (ρ 13) := And.right (zChA hc 1)
  have c18 : γ 18 = rUp (γ 17) 15 0 40 0 := And.right (zChA hc 0)
  have l0 : sn6 [ρ 0, ρ 1] (γ 0) 0 (ρ 4) (γ 1) := hS6 _ _ _ _ _ (zAllA hl 0)
  have l1 : sn6 [ρ 0 + 1, ρ 1] (γ 1) 0 (ρ 5) (γ 2) := hS6 _ _ _ _ _ (zAllA hl 1)
  have l2 : sn11 [ρ 5] (γ 2) 0 1 (γ 3) := hS11 _ _ _ _ _ (zAllA hl 2)
  have l3 : sn6 [ρ 0 + 1, ρ 1] (γ 3) 0 (ρ 6) (γ 4) := hS6 _ _ _ _ _ (zAllA hl 3)
  have l4 : sn6 [ρ 0 + 2, ρ 1] (γ 4) 0 (ρ 7) (γ 5) := hS6 _ _ _ _ _ (zAllA hl 4)
  have l5 : sn11 [ρ 7] (γ 5) 0 1 (γ 6) := hS11 _ _ _ _ _ (zAllA hl 5)
  have l6 : sn6 [ρ 0 + 2, ρ 1] (γ 6) 0 (ρ 8) (γ 7) := hS6 _ _ _ _ _ (zAllA hl 6)
  have l7 : sn6 [ρ 0 + 3, ρ 1] (γ 7) 0 (ρ 9) (γ 8) := hS6 _ _ _ _ _ (zAllA hl 7)
  have l8 : sn11 [ρ 9] (γ 8) 0 1 (γ 9) := hS11 _ _ _ _ _ (zAllA hl 8)
  have l9 : sn6 [ρ 0 + 3, ρ 1] (γ 9) 0 (ρ 10) (γ 10) := hS6 _ _ _ _ _ (zAllA hl 9)
  have l10 : sn6 [ρ 0 + 4, ρ 1] (γ 10) 0 (ρ 11) (γ 11) := hS6 _ _ _ _ _ (zAllA hl 10)
  have l11 : sn11 [ρ 11] (γ 11) 0 1 (γ 12) := hS11 _ _ _ _ _ (zAllA hl 11)
  have l12 : sn6 [ρ 0 + 4, ρ 1] (γ 12) 0 (ρ 12) (γ 13) := hS6 _ _ _ _ _ (zAllA hl 12)
  have l13 : sn6 [ρ 0 + 5, ρ 1] (γ 13) 0 (-1) (γ 14) := hS6 _ _ _ _ _ (zAllA hl 13)
  have l14 : sn11 [(-1)] (γ 14) 0 0 (γ 15) := hS11 _ _ _ _ _ (zAllA hl 14)
  have l15 : zOpP (.lneg) (γ 0) (γ 1) [ρ 12 + (10 * ρ 10 + (100 * ρ 8 + 1000 * ρ 6)) + (-53328)] (ρ 13) := zAllA hl 15
  show sn14 [ρ 0, ρ 1, ρ 2, ρ 3] (γ 0) 0 1 (γ 18)
  have hD : dn14 [] (γ 0) = .inr (0, 1, γ 18) := by
    unfold dn14
    refine zLE m0 (zLE m1 (zLE (show fn6 [ρ 0] (γ 0) = (0, ρ 4, γ 1) from l0.symm) (zLV (γ 1) rfl (zLV (ρ 4) rfl (zIN w_0 (zLE (show fn6 [ρ 0 + 1] (γ 1) = (0, ρ 5, γ 2) from l1.symm) (zLV (γ 2) rfl ?_)))))))
    refine zIP w_1 (zLV (ρ 5) rfl (zLE (show fn11 [ρ 5] (γ 2) = (0, 1, γ 3) from l2.symm) (zLV (γ 3) rfl (zIP zQ1_ (zLE (show fn6 [ρ 0 + 1] (γ 3) = (0, ρ 6, γ 4) from l3.symm) (zLV (γ 4) rfl (zLV (ρ 6) rfl ?_)))))))
    refine zLE (show fn6 [ρ 0 + 2] (γ 4) = (0, ρ 7, γ 5) from l4.symm) (zLV (γ 5) rfl (zIP w_2 (zLV (ρ 7) rfl (zLE (show fn11 [ρ 7] (γ 5) = (0, 1, γ 6) from l5.symm) (zLV (γ 6) rfl (zIP zQ1_ (zLE (show fn6 [ρ 0 + 2] (γ 6) = (0, ρ 8, γ 7) from l6.symm) ?_)))))))
    refine zLV (γ 7) rfl (zLV (ρ 8) rfl (zLE (show fn6 [ρ 0 + 3] (γ 7) = (0, ρ 9, γ 8) from l7.symm) (zLV (γ 8) rfl (zIP w_3 (zLV (ρ 9) rfl (zLE (show fn11 [ρ 9] (γ 8) = (0, 1, γ 9) from l8.symm) (zLV (γ 9) rfl ?_)))))))
    refine zIP zQ1_ (zLE (show fn6 [ρ 0 + 3] (γ 9) = (0, ρ 10, γ 10) from l9.symm) (zLV (γ 10) rfl (zLV (ρ 10) rfl (zLE (show fn6 [ρ 0 + 4] (γ 10) = (0, ρ 11, γ 11) from l10.symm) (zLV (γ 11) rfl (zIP w_4 (zLV (ρ 11) rfl ?_)))))))
    refine zLE (show fn11 [ρ 11] (γ 11) = (0, 1, γ 12) from l11.symm) (zLV (γ 12) rfl (zIP zQ1_ (zLE (show fn6 [ρ 0 + 4] (γ 12) = (0, ρ 12, γ 13) from l12.symm) (zLV (γ 13) rfl (zLV (ρ 12) rfl (zLE (show fn6 [ρ 0 + 5] (γ 13) = (0, (-1), γ 14) from l13.symm) (zLV (γ 14) rfl ?_)))))))
    refine zIN w_5 (zLE (show fn11 [(-1)] (γ 14) = (0, 0, γ 15) from l14.symm) (zLV (γ 15) rfl (zLE c16.symm (zLE (zF1_ok l15) (zLE c17.symm (zLE c18.symm ?_))))))
    rfl
  exact zGoo_end hD
theorem vn14_29 {S : Nat → zSpc} (hS6 : zIm S 6 sn6) (hS8 : zIm S 8 sn8) (hS11 : zIm S 11 sn11) {a : List Int} {g : rHp} : ∀ (ρ : Nat → Int) (γ : Nat → rHp), zO 4 S a g q14_29 ρ γ → zGl (fun i vs g1 => jn14 a g i vs g1) (sn14 a g) q14_29 ρ γ := by
  intro ρ γ h
  obtain ⟨ha, hg, hr, hf, hm, hc, hl⟩ := h
  have ha : a = [ρ 0, ρ 1, ρ 2, ρ 3] := ha
  subst ha
  subst hg
  have r4 : (45 : Int) ≤ ρ 4 ∧ ρ 4 ≤ 45 := zRnA hr 4
  have f0 : (0 : Int) ≤ -ρ 1 + ρ 0 + 4 := zAllA hf 0
  have f1 : (0 : Int) ≤ ρ 1 + -ρ 0 + (-4) := zAllA hf 1
  obtain ⟨w_0, w_1, w_2, w_3, w_4⟩ : (¬ (ρ 4 ≠ 45)) ∧ (0 ≤ ρ 1 + -ρ 0 + (-2)) ∧ (0 ≤ ρ 1 + -ρ 0 + (-3)) ∧ (0 ≤ ρ 1 + -ρ 0 + (-4)) ∧ (¬ (0 ≤ ρ 1 + -ρ 0 + (-5))) := ⟨by omega, by omega, by omega, by omega, by omega⟩
  have m0 : γ 0 15 0 35 = ρ 0 := zAllA hm 0
  have m1 : γ 0 15 0 34 = ρ 1 := zAllA hm 1
  have c13 : γ 13 = rUp (γ 12) 15 0 35 (ρ 0 + 4) := And.right (zChA hc 2)
  have c14 : γ 14 = rUp (γ 13) 15 0 39 (ρ 11) := And.right (zChA hc 1)
  have c15 : γ 15 = rUp (γ 14) 15 0 40 0 := And.right (zChA hc 0)
  have l0 : sn6 [ρ 0, ρ 1] (γ 0) 0 (ρ 4) (γ 1) := hS6 _ _ _ _ _ (zAllA hl 0)
  have l1 : sn6 [ρ 0 + 1, ρ 1] (γ 1) 0 (ρ 5) (γ 2) := hS6 _ _ _ _ _ (zAllA hl 1)
  have l2 : sn11 [ρ 5] (γ 2) 0 1 (γ 3) := hS11 _ _ _ _ _ (zAllA hl 2)
  have l3 : sn6 [ρ 0 + 1, ρ 1] (γ 3) 0 (ρ 6) (γ 4) := hS6 _ _ _ _ _ (zAllA hl 3)
  have l4 : sn6 [ρ 0 + 2, ρ 1] (γ 4) 0 (ρ 7) (γ 5) := hS6 _ _ _ _ _ (zAllA hl 4)
  have l5 : sn11 [ρ 7] (γ 5) 0 1 (γ 6) := hS11 _ _ _ _ _ (zAllA hl 5)
  have l6 : sn6 [ρ 0 + 2, ρ 1] (γ 6) 0 (ρ 8) (γ 7) := hS6 _ _ _ _ _ (zAllA hl 6)
  have l7 : sn6 [ρ 0 + 3, ρ 1] (γ 7) 0 (ρ 9) (γ 8) := hS6 _ _ _ _ _ (zAllA hl 7)
  have l8 : sn11 [ρ 9] (γ 8) 0 1 (γ 9) := hS11 _ _ _ _ _ (zAllA hl 8)
  have l9 : sn6 [ρ 0 + 3, ρ 1] (γ 9) 0 (ρ 10) (γ 10) := hS6 _ _ _ _ _ (zAllA hl 9)
  have l10 : sn6 [ρ 0 + 4, ρ 1] (γ 10) 0 (-1) (γ 11) := hS6 _ _ _ _ _ (zAllA hl 10)
  have l11 : sn11 [(-1)] (γ 11) 0 0 (γ 12) := hS11 _ _ _ _ _ (zAllA hl 11)
  have l12 : zOpP (.lneg) (γ 0) (γ 1) [ρ 10 + (10 * ρ 8 + 100 * ρ 6) + (-5328)] (ρ 11) := zAllA hl 12
  show sn14 [ρ 0, ρ 1, ρ 2, ρ 3] (γ 0) 0 1 (γ 15)
  have hD : dn14 [] (γ 0) = .inr (0, 1, γ 15) := by
    unfold dn14
    refine zLE m0 (zLE m1 (zLE (show fn6 [ρ 0] (γ 0) = (0, ρ 4, γ 1) from l0.symm) (zLV (γ 1) rfl (zLV (ρ 4) rfl (zIN w_0 (zLE (show fn6 [ρ 0 + 1] (γ 1) = (0, ρ 5, γ 2) from l1.symm) (zLV (γ 2) rfl ?_)))))))
    refine zIP w_1 (zLV (ρ 5) rfl (zLE (show fn11 [ρ 5] (γ 2) = (0, 1, γ 3) from l2.symm) (zLV (γ 3) rfl (zIP zQ1_ (zLE (show fn6 [ρ 0 + 1] (γ 3) = (0, ρ 6, γ 4) from l3.symm) (zLV (γ 4) rfl (zLV (ρ 6) rfl ?_)))))))
    refine zLE (show fn6 [ρ 0 + 2] (γ 4) = (0, ρ 7, γ 5) from l4.symm) (zLV (γ 5) rfl (zIP w_2 (zLV (ρ 7) rfl (zLE (show fn11 [ρ 7] (γ 5) = (0, 1, γ 6) from l5.symm) (zLV (γ 6) rfl (zIP zQ1_ (zLE (show fn6 [ρ 0 + 2] (γ 6) = (0, ρ 8, γ 7) from l6.symm) ?_)))))))
    refine zLV (γ 7) rfl (zLV (ρ 8) rfl (zLE (show fn6 [ρ 0 + 3] (γ 7) = (0, ρ 9, γ 8) from l7.symm) (zLV (γ 8) rfl (zIP w_3 (zLV (ρ 9) rfl (zLE (show fn11 [ρ 9] (γ 8) = (0, 1, γ 9) from l8.symm) (zLV (γ 9) rfl ?_)))))))
    refine zIP zQ1_ (zLE (show fn6 [ρ 0 + 3] (γ 9) = (0, ρ 10, γ 10) from l9.symm) (zLV (γ 10) rfl (zLV (ρ 10) rfl (zLE (show fn6 [ρ 0 + 4] (γ 10) = (0, (-1), γ 11) from l10.symm) (zLV (γ 11) rfl (zIN w_4 (zLE (show fn11 [(-1)] (γ 11) = (0, 0, γ 12) from l11.symm) ?_)))))))
    refine zLV (γ 12) rfl (zLE c13.symm (zLE (zF1_ok l12) (zLE c14.symm (zLE c15.symm ?_))))
    rfl
  exact zGoo_end hD
theorem vn14_30 {S : Nat → zSpc} (hS6 : zIm S 6 sn6) (hS8 : zIm S 8 sn8) (hS11 : zIm S 11 sn11) {a : List Int} {g : rHp} : ∀ (ρ : Nat → Int) (γ : Nat → rHp), zO 4 S a g q14_30 ρ γ → zGl (fun i vs g1 => jn14 a g i vs g1) (sn14 a g) q14_30 ρ γ := by
  intro ρ γ h
  obtain ⟨ha, hg, hr, hf, hm, hc, hl⟩ := h
  have ha : a = [ρ 0, ρ 1, ρ 2, ρ 3] := ha
  subst ha
  subst hg
  have r4 : (45 : Int) ≤ ρ 4 ∧ ρ 4 ≤ 45 := zRnA hr 4
  have f0 : (0 : Int) ≤ -ρ 1 + ρ 0 + 3 := zAllA hf 0
  have f1 : (0 : Int) ≤ ρ 1 + -ρ 0 + (-3) := zAllA hf 1
  obtain ⟨w_0, w_1, w_2, w_3⟩ : (¬ (ρ 4 ≠ 45)) ∧ (0 ≤ ρ 1 + -ρ 0 + (-2)) ∧ (0 ≤ ρ 1 + -ρ 0 + (-3)) ∧ (¬ (0 ≤ ρ 1 + -ρ 0 + (-4))) := ⟨by omega, by omega, by omega, by omega⟩
  have m0 : γ 0 15 0 35 = ρ 0 := zAllA hm 0
  have m1 : γ 0 15 0 34 = ρ 1 := zAllA hm 1
  have c10 : γ 10 = rUp (γ 9) 15 0 35 (ρ 0 + 3) := And.right (zChA hc 2)
  have c11 : γ 11 = rUp (γ 10) 15 0 39 (ρ 9) := And.right (zChA hc 1)
  have c12 : γ 12 = rUp (γ 11) 15 0 40 0 := And.right (zChA hc 0)
  have l0 : sn6 [ρ 0, ρ 1] (γ 0) 0 (ρ 4) (γ 1) := hS6 _ _ _ _ _ (zAllA hl 0)
  have l1 : sn6 [ρ 0 + 1, ρ 1] (γ 1) 0 (ρ 5) (γ 2) := hS6 _ _ _ _ _ (zAllA hl 1)
  have l2 : sn11 [ρ 5] (γ 2) 0 1 (γ 3) := hS11 _ _ _ _ _ (zAllA hl 2)
  have l3 : sn6 [ρ 0 + 1, ρ 1] (γ 3) 0 (ρ 6) (γ 4) := hS6 _ _ _ _ _ (zAllA hl 3)
  have l4 : sn6 [ρ 0 + 2, ρ 1] (γ 4) 0 (ρ 7) (γ 5) := hS6 _ _ _ _ _ (zAllA hl 4)
  have l5 : sn11 [ρ 7] (γ 5) 0 1 (γ 6) := hS11 _ _ _ _ _ (zAllA hl 5)
  have l6 : sn6 [ρ 0 + 2, ρ 1] (γ 6) 0 (ρ 8) (γ 7) := hS6 _ _ _ _ _ (zAllA hl 6)
  have l7 : sn6 [ρ 0 + 3, ρ 1] (γ 7) 0 (-1) (γ 8) := hS6 _ _ _ _ _ (zAllA hl 7)
  have l8 : sn11 [(-1)] (γ 8) 0 0 (γ 9) := hS11 _ _ _ _ _ (zAllA hl 8)
  have l9 : zOpP (.lneg) (γ 0) (γ 1) [ρ 8 + 10 * ρ 6 + (-528)] (ρ 9) := zAllA hl 9
  show sn14 [ρ 0, ρ 1, ρ 2, ρ 3] (γ 0) 0 1 (γ 12)
  have hD : dn14 [] (γ 0) = .inr (0, 1, γ 12) := by
    unfold dn14
    refine zLE m0 (zLE m1 (zLE (show fn6 [ρ 0] (γ 0) = (0, ρ 4, γ 1) from l0.symm) (zLV (γ 1) rfl (zLV (ρ 4) rfl (zIN w_0 (zLE (show fn6 [ρ 0 + 1] (γ 1) = (0, ρ 5, γ 2) from l1.symm) (zLV (γ 2) rfl ?_)))))))
    refine zIP w_1 (zLV (ρ 5) rfl (zLE (show fn11 [ρ 5] (γ 2) = (0, 1, γ 3) from l2.symm) (zLV (γ 3) rfl (zIP zQ1_ (zLE (show fn6 [ρ 0 + 1] (γ 3) = (0, ρ 6, γ 4) from l3.symm) (zLV (γ 4) rfl (zLV (ρ 6) rfl ?_)))))))
    refine zLE (show fn6 [ρ 0 + 2] (γ 4) = (0, ρ 7, γ 5) from l4.symm) (zLV (γ 5) rfl (zIP w_2 (zLV (ρ 7) rfl (zLE (show fn11 [ρ 7] (γ 5) = (0, 1, γ 6) from l5.symm) (zLV (γ 6) rfl (zIP zQ1_ (zLE (show fn6 [ρ 0 + 2] (γ 6) = (0, ρ 8, γ 7) from l6.symm) ?_)))))))
    refine zLV (γ 7) rfl (zLV (ρ 8) rfl (zLE (show fn6 [ρ 0 + 3] (γ 7) = (0, (-1), γ 8) from l7.symm) (zLV (γ 8) rfl (zIN w_3 (zLE (show fn11 [(-1)] (γ 8) = (0, 0, γ 9) from l8.symm) (zLV (γ 9) rfl (zLE c10.symm ?_)))))))
    refine zLE (zF1_ok l9) (zLE c11.symm (zLE c12.symm ?_))
    rfl
  exact zGoo_end hD
theorem vn14_31 {S : Nat → zSpc} (hS6 : zIm S 6 sn6) (hS8 : zIm S 8 sn8) (hS11 : zIm S 11 sn11) {a : List Int} {g : rHp} : ∀ (ρ : Nat → Int) (γ : Nat → rHp), zO 4 S a g q14_31 ρ γ → zGl (fun i vs g1 => jn14 a g i vs g1) (sn14 a g) q14_31 ρ γ := by
  intro ρ γ h
  obtain ⟨ha, hg, hr, hf, hm, hc, hl⟩ := h
  have ha : a = [ρ 0, ρ 1, ρ 2, ρ 3] := ha
  subst ha
  subst hg
  have r4 : (45 : Int) ≤ ρ 4 ∧ ρ 4 ≤ 45 := zRnA hr 4
  have f0 : (0 : Int) ≤ -ρ 1 + ρ 0 + 2 := zAllA hf 0
  have f1 : (0 : Int) ≤ ρ 1 + -ρ 0 + (-2) := zAllA hf 1
  obtain ⟨w_0, w_1, w_2⟩ : (¬ (ρ 4 ≠ 45)) ∧ (0 ≤ ρ 1 + -ρ 0 + (-2)) ∧ (¬ (0 ≤ ρ 1 + -ρ 0 + (-3))) := ⟨by omega, by omega, by omega⟩
  have m0 : γ 0 15 0 35 = ρ 0 := zAllA hm 0
  have m1 : γ 0 15 0 34 = ρ 1 := zAllA hm 1
  have c7 : γ 7 = rUp (γ 6) 15 0 35 (ρ 0 + 2) := And.right (zChA hc 2)
  have c8 : γ 8 = rUp (γ 7) 15 0 39 (ρ 7) := And.right (zChA hc 1)
  have c9 : γ 9 = rUp (γ 8) 15 0 40 0 := And.right (zChA hc 0)
  have l0 : sn6 [ρ 0, ρ 1] (γ 0) 0 (ρ 4) (γ 1) := hS6 _ _ _ _ _ (zAllA hl 0)
  have l1 : sn6 [ρ 0 + 1, ρ 1] (γ 1) 0 (ρ 5) (γ 2) := hS6 _ _ _ _ _ (zAllA hl 1)
  have l2 : sn11 [ρ 5] (γ 2) 0 1 (γ 3) := hS11 _ _ _ _ _ (zAllA hl 2)
  have l3 : sn6 [ρ 0 + 1, ρ 1] (γ 3) 0 (ρ 6) (γ 4) := hS6 _ _ _ _ _ (zAllA hl 3)
  have l4 : sn6 [ρ 0 + 2, ρ 1] (γ 4) 0 (-1) (γ 5) := hS6 _ _ _ _ _ (zAllA hl 4)
  have l5 : sn11 [(-1)] (γ 5) 0 0 (γ 6) := hS11 _ _ _ _ _ (zAllA hl 5)
  have l6 : zOpP (.lneg) (γ 0) (γ 1) [ρ 6 + (-48)] (ρ 7) := zAllA hl 6
  show sn14 [ρ 0, ρ 1, ρ 2, ρ 3] (γ 0) 0 1 (γ 9)
  have hD : dn14 [] (γ 0) = .inr (0, 1, γ 9) := by
    unfold dn14
    refine zLE m0 (zLE m1 (zLE (show fn6 [ρ 0] (γ 0) = (0, ρ 4, γ 1) from l0.symm) (zLV (γ 1) rfl (zLV (ρ 4) rfl (zIN w_0 (zLE (show fn6 [ρ 0 + 1] (γ 1) = (0, ρ 5, γ 2) from l1.symm) (zLV (γ 2) rfl ?_)))))))
    refine zIP w_1 (zLV (ρ 5) rfl (zLE (show fn11 [ρ 5] (γ 2) = (0, 1, γ 3) from l2.symm) (zLV (γ 3) rfl (zIP zQ1_ (zLE (show fn6 [ρ 0 + 1] (γ 3) = (0, ρ 6, γ 4) from l3.symm) (zLV (γ 4) rfl (zLV (ρ 6) rfl ?_)))))))
    refine zLE (show fn6 [ρ 0 + 2] (γ 4) = (0, (-1), γ 5) from l4.symm) (zLV (γ 5) rfl (zIN w_2 (zLE (show fn11 [(-1)] (γ 5) = (0, 0, γ 6) from l5.symm) (zLV (γ 6) rfl (zLE c7.symm (zLE (zF1_ok l6) (zLE c8.symm ?_)))))))
    refine zLE c9.symm ?_
    rfl
  exact zGoo_end hD
theorem vn14_32 {S : Nat → zSpc} (hS6 : zIm S 6 sn6) (hS8 : zIm S 8 sn8) (hS11 : zIm S 11 sn11) {a : List Int} {g : rHp} : ∀ (ρ : Nat → Int) (γ : Nat → rHp), zO 4 S a g q14_32 ρ γ → zGl (fun i vs g1 => jn14 a g i vs g1) (sn14 a g) q14_32 ρ γ := by
  intro ρ γ h
  obtain ⟨ha, hg, hr, hf, hm, hc, hl⟩ := h
  have ha : a = [ρ 0, ρ 1, ρ 2, ρ 3] := ha
  subst ha
  subst hg
  have r4 : (45 : Int) ≤ ρ 4 ∧ ρ 4 ≤ 45 := zRnA hr 4
  have f2 : (0 : Int) ≤ -ρ 1 + ρ 0 + 1 := zAllA hf 2
  obtain ⟨w_0, w_1⟩ : (¬ (ρ 4 ≠ 45)) ∧ (¬ (0 ≤ ρ 1 + -ρ 0 + (-2))) := ⟨by omega, by omega⟩
  have m0 : γ 0 15 0 35 = ρ 0 := zAllA hm 0
  have m1 : γ 0 15 0 34 = ρ 1 := zAllA hm 1
  have l0 : sn6 [ρ 0, ρ 1] (γ 0) 0 (ρ 4) (γ 1) := hS6 _ _ _ _ _ (zAllA hl 0)
  have l1 : sn6 [ρ 0 + 1, ρ 1] (γ 1) 0 (-1) (γ 2) := hS6 _ _ _ _ _ (zAllA hl 1)
  have l2 : sn11 [(-1)] (γ 2) 0 0 (γ 3) := hS11 _ _ _ _ _ (zAllA hl 2)
  have l3 : sn8 [ρ 0, ρ 1, ρ 2] (γ 3) 0 0 (γ 4) := hS8 _ _ _ _ _ (zAllA hl 3)
  show sn14 [ρ 0, ρ 1, ρ 2, ρ 3] (γ 0) 0 0 (γ 4)
  have hD : dn14 [] (γ 0) = .inr (0, 0, γ 4) := by
    unfold dn14
    refine zLE m0 (zLE m1 (zLE (show fn6 [ρ 0] (γ 0) = (0, ρ 4, γ 1) from l0.symm) (zLV (γ 1) rfl (zLV (ρ 4) rfl (zIN w_0 (zLE (show fn6 [ρ 0 + 1] (γ 1) = (0, (-1), γ 2) from l1.symm) (zLV (γ 2) rfl ?_)))))))
    refine zIN w_1 (zLE (show fn11 [(-1)] (γ 2) = (0, 0, γ 3) from l2.symm) (zLV (γ 3) rfl (zLE (show fn8 [ρ 0] (γ 3) = (0, 0, γ 4) from l3.symm) (zLV (γ 4) rfl ?_))))
    rfl
  exact zGoo_end hD
theorem vn14a0_0 {S : Nat → zSpc} (hS6 : zIm S 6 sn6) (hS8 : zIm S 8 sn8) (hS11 : zIm S 11 sn11) {a : List Int} {g : rHp} : ∀ (ρ : Nat → Int) (γ : Nat → rHp), jn14 a g 0 (zAg (zNA a14_ 0) ρ) (γ 1) → zO 4 S a g q14a0_0 ρ γ → zGl (fun i vs g1 => jn14 a g i vs g1) (sn14 a g) q14a0_0 ρ γ := by
  intro ρ γ hJ h
  obtain ⟨ha, hg, hr, hf, hm, hc, hl⟩ := h
  have ha : a = [ρ 0, ρ 1, ρ 2, ρ 3] := ha
  subst ha
  subst hg
  have hJ : jn14 [ρ 0, ρ 1, ρ 2, ρ 3] (γ 0) 0 [ρ 0, ρ 1, ρ 2, ρ 3, ρ 4, ρ 5, ρ 6, ρ 7] (γ 1) := hJ
  have f4 : (0 : Int) ≤ -ρ 4 + ρ 1 + (-1) := zAllA hf 4
  have w_0 : 0 ≤ -ρ 4 + ρ 1 + (-1) := by omega
  have m0 : γ 0 15 0 35 = ρ 0 := zAllA hm 0
  have m1 : γ 0 15 0 34 = ρ 1 := zAllA hm 1
  have l0 : sn6 [ρ 4, ρ 1] (γ 1) 0 (ρ 8) (γ 2) := hS6 _ _ _ _ _ (zAllA hl 0)
  have l1 : sn11 [ρ 8] (γ 2) 0 0 (γ 3) := hS11 _ _ _ _ _ (zAllA hl 1)
  have l2 : sn8 [ρ 0, ρ 1, ρ 2] (γ 3) 0 0 (γ 4) := hS8 _ _ _ _ _ (zAllA hl 2)
  show sn14 [ρ 0, ρ 1, ρ 2, ρ 3] (γ 0) 0 0 (γ 4)
  have hD : en14 (γ 0) (0, [ρ 4, ρ 5, ρ 6, ρ 7], γ 1) = .inr (0, 0, γ 4) := by
    unfold en14
    refine zIP (show (0 : Nat) = 0 by decide) (zLV (γ 1) rfl (zLV (ρ 4) rfl (zLV (ρ 5) rfl (zLV (ρ 6) rfl (zLV (ρ 7) rfl (zLE m0 (zLE m1 ?_)))))))
    refine zLE (show fn6 [ρ 4] (γ 1) = (0, ρ 8, γ 2) from l0.symm) (zLV (γ 2) rfl (zIP w_0 (zLV (ρ 8) rfl (zLE (show fn11 [ρ 8] (γ 2) = (0, 0, γ 3) from l1.symm) (zLV (γ 3) rfl (zIN zQ0_ (zLE (show fn8 [ρ 0] (γ 3) = (0, 0, γ 4) from l2.symm) ?_)))))))
    refine zLV (γ 4) rfl ?_
    rfl
  exact zGoo_aend hJ hD
theorem vn14a0_1 {S : Nat → zSpc} (hS6 : zIm S 6 sn6) (hS8 : zIm S 8 sn8) (hS11 : zIm S 11 sn11) {a : List Int} {g : rHp} : ∀ (ρ : Nat → Int) (γ : Nat → rHp), jn14 a g 0 (zAg (zNA a14_ 0) ρ) (γ 1) → zO 4 S a g q14a0_1 ρ γ → zGl (fun i vs g1 => jn14 a g i vs g1) (sn14 a g) q14a0_1 ρ γ := by
  intro ρ γ hJ h
  obtain ⟨ha, hg, hr, hf, hm, hc, hl⟩ := h
  have ha : a = [ρ 0, ρ 1, ρ 2, ρ 3] := ha
  subst ha
  subst hg
  have hJ : jn14 [ρ 0, ρ 1, ρ 2, ρ 3] (γ 0) 0 [ρ 0, ρ 1, ρ 2, ρ 3, ρ 4, ρ 5, ρ 6, ρ 7] (γ 1) := hJ
  have f1 : (0 : Int) ≤ -ρ 4 + ρ 1 + (-1) := zAllA hf 1
  have w_0 : 0 ≤ -ρ 4 + ρ 1 + (-1) := by omega
  have m0 : γ 0 15 0 35 = ρ 0 := zAllA hm 0
  have m1 : γ 0 15 0 34 = ρ 1 := zAllA hm 1
  have l0 : sn6 [ρ 4, ρ 1] (γ 1) 0 (ρ 8) (γ 2) := hS6 _ _ _ _ _ (zAllA hl 0)
  have l1 : sn11 [ρ 8] (γ 2) 0 1 (γ 3) := hS11 _ _ _ _ _ (zAllA hl 1)
  show jn14 [ρ 0, ρ 1, ρ 2, ρ 3] (γ 0) 0 [ρ 0, ρ 1, ρ 2, ρ 3, ρ 4 + 1, ρ 5, ρ 6, ρ 7] (γ 3)
  have hD : en14 (γ 0) (0, [ρ 4, ρ 5, ρ 6, ρ 7], γ 1) = .inl (0, [ρ 4 + 1, ρ 5, ρ 6, ρ 7], γ 3) := by
    unfold en14
    refine zIP (show (0 : Nat) = 0 by decide) (zLV (γ 1) rfl (zLV (ρ 4) rfl (zLV (ρ 5) rfl (zLV (ρ 6) rfl (zLV (ρ 7) rfl (zLE m0 (zLE m1 ?_)))))))
    refine zLE (show fn6 [ρ 4] (γ 1) = (0, ρ 8, γ 2) from l0.symm) (zLV (γ 2) rfl (zIP w_0 (zLV (ρ 8) rfl (zLE (show fn11 [ρ 8] (γ 2) = (0, 1, γ 3) from l1.symm) (zLV (γ 3) rfl (zIP zQ1_ ?_))))))
    rfl
  exact zGoo_ato hJ hD
theorem vn14a0_2 {S : Nat → zSpc} (hS6 : zIm S 6 sn6) (hS8 : zIm S 8 sn8) (hS11 : zIm S 11 sn11) {a : List Int} {g : rHp} : ∀ (ρ : Nat → Int) (γ : Nat → rHp), jn14 a g 0 (zAg (zNA a14_ 0) ρ) (γ 1) → zO 4 S a g q14a0_2 ρ γ → zGl (fun i vs g1 => jn14 a g i vs g1) (sn14 a g) q14a0_2 ρ γ := by
  intro ρ γ hJ h
  obtain ⟨ha, hg, hr, hf, hm, hc, hl⟩ := h
  have ha : a = [ρ 0, ρ 1, ρ 2, ρ 3] := ha
  subst ha
  subst hg
  have hJ : jn14 [ρ 0, ρ 1, ρ 2, ρ 3] (γ 0) 0 [ρ 0, ρ 1, ρ 2, ρ 3, ρ 4, ρ 5, ρ 6, ρ 7] (γ 1) := hJ
  have f4 : (0 : Int) ≤ ρ 4 + -ρ 1 := zAllA hf 4
  have w_0 : ¬ (0 ≤ -ρ 4 + ρ 1 + (-1)) := by omega
  have m0 : γ 0 15 0 35 = ρ 0 := zAllA hm 0
  have m1 : γ 0 15 0 34 = ρ 1 := zAllA hm 1
  have l0 : sn6 [ρ 4, ρ 1] (γ 1) 0 (-1) (γ 2) := hS6 _ _ _ _ _ (zAllA hl 0)
  have l1 : sn11 [(-1)] (γ 2) 0 0 (γ 3) := hS11 _ _ _ _ _ (zAllA hl 1)
  have l2 : sn8 [ρ 0, ρ 1, ρ 2] (γ 3) 0 0 (γ 4) := hS8 _ _ _ _ _ (zAllA hl 2)
  show sn14 [ρ 0, ρ 1, ρ 2, ρ 3] (γ 0) 0 0 (γ 4)
  have hD : en14 (γ 0) (0, [ρ 4, ρ 5, ρ 6, ρ 7], γ 1) = .inr (0, 0, γ 4) := by
    unfold en14
    refine zIP (show (0 : Nat) = 0 by decide) (zLV (γ 1) rfl (zLV (ρ 4) rfl (zLV (ρ 5) rfl (zLV (ρ 6) rfl (zLV (ρ 7) rfl (zLE m0 (zLE m1 ?_)))))))
    refine zLE (show fn6 [ρ 4] (γ 1) = (0, (-1), γ 2) from l0.symm) (zLV (γ 2) rfl (zIN w_0 (zLE (show fn11 [(-1)] (γ 2) = (0, 0, γ 3) from l1.symm) (zLV (γ 3) rfl (zLE (show fn8 [ρ 0] (γ 3) = (0, 0, γ 4) from l2.symm) (zLV (γ 4) rfl ?_))))))
    rfl
  exact zGoo_aend hJ hD
theorem yn14 {S : Nat → zSpc} (hS6 : zIm S 6 sn6) (hS8 : zIm S 8 sn8) (hS11 : zIm S 11 sn11) : ∀ x g o v gz, zSem uW uT w14_.2.2.2.1 w14_.2.2.1.1.length S q14 (fun i => q14a.getD i []) (zNA a14_) x g o v gz → sn14 x g o v gz := by
  intro a g o v gz h
  exact zSem_all (l0 := q14) (las := q14a) (S := S) (J := (fun i vs g1 => jn14 a g i vs g1)) (P := sn14 a g) (fun _ => (show zAll _ [q14_0, q14_1, q14_2, q14_3, q14_4, q14_5, q14_6, q14_7, q14_8, q14_9, q14_10, q14_11, q14_12, q14_13, q14_14, q14_15, q14_16, q14_17, q14_18, q14_19, q14_20, q14_21, q14_22, q14_23, q14_24, q14_25, q14_26, q14_27, q14_28, q14_29, q14_30, q14_31, q14_32] from (zAll_c (vn14_0 hS6 hS8 hS11) (zAll_c (vn14_1 hS6 hS8 hS11) (zAll_c (vn14_2 hS6 hS8 hS11) (zAll_c (vn14_3 hS6 hS8 hS11) (zAll_c (vn14_4 hS6 hS8 hS11) (zAll_c (vn14_5 hS6 hS8 hS11) (zAll_c (vn14_6 hS6 hS8 hS11) (zAll_c (vn14_7 hS6 hS8 hS11) (zAll_c (vn14_8 hS6 hS8 hS11) (zAll_c (vn14_9 hS6 hS8 hS11) (zAll_c (vn14_10 hS6 hS8 hS11) (zAll_c (vn14_11 hS6 hS8 hS11) (zAll_c (vn14_12 hS6 hS8 hS11) (zAll_c (vn14_13 hS6 hS8 hS11) (zAll_c (vn14_14 hS6 hS8 hS11) (zAll_c (vn14_15 hS6 hS8 hS11) (zAll_c (vn14_16 hS6 hS8 hS11) (zAll_c (vn14_17 hS6 hS8 hS11) (zAll_c (vn14_18 hS6 hS8 hS11) (zAll_c (vn14_19 hS6 hS8 hS11) (zAll_c (vn14_20 hS6 hS8 hS11) (zAll_c (vn14_21 hS6 hS8 hS11) (zAll_c (vn14_22 hS6 hS8 hS11) (zAll_c (vn14_23 hS6 hS8 hS11) (zAll_c (vn14_24 hS6 hS8 hS11) (zAll_c (vn14_25 hS6 hS8 hS11) (zAll_c (vn14_26 hS6 hS8 hS11) (zAll_c (vn14_27 hS6 hS8 hS11) (zAll_c (vn14_28 hS6 hS8 hS11) (zAll_c (vn14_29 hS6 hS8 hS11) (zAll_c (vn14_30 hS6 hS8 hS11) (zAll_c (vn14_31 hS6 hS8 hS11) (zAll_c (vn14_32 hS6 hS8 hS11) zAll_n))))))))))))))))))))))))))))))))))) (fun _ => (show zAllI _ 0 [q14a0] from ⟨(show zAll _ [q14a0_0, q14a0_1, q14a0_2] from (zAll_c (vn14a0_0 hS6 hS8 hS11) (zAll_c (vn14a0_1 hS6 hS8 hS11) (zAll_c (vn14a0_2 hS6 hS8 hS11) zAll_n)))), trivial⟩)) h
