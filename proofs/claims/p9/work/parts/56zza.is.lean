/-! ===== the runs are the functions ===== -/
set_option maxRecDepth 100000 in
theorem vn66_0 {S : Nat → zSpc}  {a : List Int} {g : rHp} : ∀ (ρ : Nat → Int) (γ : Nat → rHp), zO 1 S a g q66_0 ρ γ → zGl (fun _ _ _ => True) (sn66 a g) q66_0 ρ γ := by
  intro ρ γ h
  obtain ⟨ha, hg, hr, hf, hm, hc, hl⟩ := h
  have ha : a = [ρ 0] := ha
  subst ha
  subst hg
  obtain ⟨r0, -⟩ := hr
  have r0 : (100 : Int) ≤ ρ 0 ∧ ρ 0 ≤ 50000 := r0
  have w_0 : ρ 0 ≥ 100 := by omega
  obtain ⟨m0, -⟩ := hm
  have m0 : γ 0 15 0 94 = ρ 0 := m0
  obtain ⟨-, c1⟩ := hc
  have c1 : γ 1 = rUp (γ 0) 15 0 94 (ρ 0 + 1) := c1
  show sn66 [ρ 0] (γ 0) 0 0 (γ 1)
  refine Eq.symm ?_
  show fn66 [] (γ 0) = _
  unfold fn66
  refine (zLet_eq m0).trans ?_
  refine (if_pos w_0).trans ?_
  refine (zLet_eq c1.symm).trans ?_
  rfl
set_option maxRecDepth 100000 in
theorem vn66_1 {S : Nat → zSpc}  {a : List Int} {g : rHp} : ∀ (ρ : Nat → Int) (γ : Nat → rHp), zO 1 S a g q66_1 ρ γ → zGl (fun _ _ _ => True) (sn66 a g) q66_1 ρ γ := by
  intro ρ γ h
  obtain ⟨ha, hg, hr, hf, hm, hc, hl⟩ := h
  have ha : a = [ρ 0] := ha
  subst ha
  subst hg
  obtain ⟨r0, -⟩ := hr
  have r0 : (0 : Int) ≤ ρ 0 ∧ ρ 0 ≤ 99 := r0
  have w_0 : ¬ (ρ 0 ≥ 100) := by omega
  obtain ⟨m0, m1, m2, m3, m4, m5, m6, m7, m8, -⟩ := hm
  have m0 : γ 0 15 0 94 = ρ 0 := m0
  have m1 : γ 0 103 0 0 = ρ 1 := m1
  have m2 : γ 0 103 0 1 = ρ 2 := m2
  have m3 : γ 0 103 0 2 = ρ 3 := m3
  have m4 : γ 0 103 0 3 = ρ 4 := m4
  have m5 : γ 0 103 0 4 = ρ 5 := m5
  have m6 : γ 0 103 0 5 = ρ 6 := m6
  have m7 : γ 0 103 0 6 = ρ 7 := m7
  have m8 : γ 0 103 0 7 = ρ 8 := m8
  obtain ⟨⟨⟨⟨⟨⟨⟨⟨⟨-, c1⟩, c2⟩, c3⟩, c4⟩, c5⟩, c6⟩, c7⟩, c8⟩, c9⟩ := hc
  have c1 : γ 1 = rUp (γ 0) 111 0 (8 * ρ 0) (ρ 1) := c1
  have c2 : γ 2 = rUp (γ 1) 111 0 (8 * ρ 0 + 1) (ρ 2) := c2
  have c3 : γ 3 = rUp (γ 2) 111 0 (8 * ρ 0 + 2) (ρ 3) := c3
  have c4 : γ 4 = rUp (γ 3) 111 0 (8 * ρ 0 + 3) (ρ 4) := c4
  have c5 : γ 5 = rUp (γ 4) 111 0 (8 * ρ 0 + 4) (ρ 5) := c5
  have c6 : γ 6 = rUp (γ 5) 111 0 (8 * ρ 0 + 5) (ρ 6) := c6
  have c7 : γ 7 = rUp (γ 6) 111 0 (8 * ρ 0 + 6) (ρ 7) := c7
  have c8 : γ 8 = rUp (γ 7) 111 0 (8 * ρ 0 + 7) (ρ 8) := c8
  have c9 : γ 9 = rUp (γ 8) 15 0 94 (ρ 0 + 1) := c9
  show sn66 [ρ 0] (γ 0) 0 0 (γ 9)
  refine Eq.symm ?_
  show fn66 [] (γ 0) = _
  unfold fn66
  refine (zLet_eq m0).trans ?_
  refine (if_neg w_0).trans ?_
  refine (zLet_eq m1).trans ?_
  refine (zLet_eq c1.symm).trans ?_
  refine (zLet_eq m2).trans ?_
  refine (zLet_eq c2.symm).trans ?_
  refine (zLet_eq m3).trans ?_
  refine (zLet_eq c3.symm).trans ?_
  refine (zLet_eq m4).trans ?_
  refine (zLet_eq c4.symm).trans ?_
  refine (zLet_eq m5).trans ?_
  refine (zLet_eq c5.symm).trans ?_
  refine (zLet_eq m6).trans ?_
  refine (zLet_eq c6.symm).trans ?_
  refine (zLet_eq m7).trans ?_
  refine (zLet_eq c7.symm).trans ?_
  refine (zLet_eq m8).trans ?_
  refine (zLet_eq c8.symm).trans ?_
  refine (zLet_eq c9.symm).trans ?_
  rfl
set_option maxRecDepth 100000 in
theorem yn66 {S : Nat → zSpc}  : ∀ x g o v gz, zSem uW uT w66_.2.2.2.1 w66_.2.2.1.1.length S q66 (fun i => q66a.getD i []) (zNA a66_) x g o v gz → sn66 x g o v gz := by
  intro a g o v gz h
  exact zSem_all (l0 := q66) (las := q66a) (S := S) (J := (fun _ _ _ => True)) (P := sn66 a g) (fun _ => (show zAll _ [q66_0, q66_1] from (zAll_c (vn66_0 ) (zAll_c (vn66_1 ) zAll_n)))) (fun _ => (show zAllI _ 0 [] from trivial)) h
set_option maxRecDepth 100000 in
theorem vn74_0 {S : Nat → zSpc} (hS62 : ∀ x g o v gz, S 62 x g o v gz → sn62 x g o v gz) (hS63 : ∀ x g o v gz, S 63 x g o v gz → sn63 x g o v gz) (hS64 : ∀ x g o v gz, S 64 x g o v gz → sn64 x g o v gz) (hS65 : ∀ x g o v gz, S 65 x g o v gz → sn65 x g o v gz) (hS66 : ∀ x g o v gz, S 66 x g o v gz → sn66 x g o v gz) {a : List Int} {g : rHp} : ∀ (ρ : Nat → Int) (γ : Nat → rHp), zO 9 S a g q74_0 ρ γ → zGl (fun i vs g1 => jn74 a g i vs g1) (sn74 a g) q74_0 ρ γ := by
  intro ρ γ h
  obtain ⟨ha, hg, hr, hf, hm, hc, hl⟩ := h
  have ha : a = [ρ 0, ρ 1, ρ 2, ρ 3, ρ 4, ρ 5, ρ 6, ρ 7, ρ 8] := ha
  subst ha
  subst hg
  show jn74 [ρ 0, ρ 1, ρ 2, ρ 3, ρ 4, ρ 5, ρ 6, ρ 7, ρ 8] (γ 0) 0 [ρ 0, ρ 1, ρ 2, ρ 3, ρ 4, ρ 5, ρ 6, ρ 7, ρ 8, 0, ρ 1, ρ 2, ρ 3] (γ 0)
  have hD : dn74 [] (γ 0) = .inl (0, [0], γ 0) := by
    unfold dn74
    rfl
  exact zGoo_to hD
set_option maxRecDepth 100000 in
theorem vn74a0_0 {S : Nat → zSpc} (hS62 : ∀ x g o v gz, S 62 x g o v gz → sn62 x g o v gz) (hS63 : ∀ x g o v gz, S 63 x g o v gz → sn63 x g o v gz) (hS64 : ∀ x g o v gz, S 64 x g o v gz → sn64 x g o v gz) (hS65 : ∀ x g o v gz, S 65 x g o v gz → sn65 x g o v gz) (hS66 : ∀ x g o v gz, S 66 x g o v gz → sn66 x g o v gz) {a : List Int} {g : rHp} : ∀ (ρ : Nat → Int) (γ : Nat → rHp), jn74 a g 0 (zAg (zNA a74_ 0) ρ) (γ 1) → zO 9 S a g q74a0_0 ρ γ → zGl (fun i vs g1 => jn74 a g i vs g1) (sn74 a g) q74a0_0 ρ γ := by
  intro ρ γ hJ h
  obtain ⟨ha, hg, hr, hf, hm, hc, hl⟩ := h
  have ha : a = [ρ 0, ρ 1, ρ 2, ρ 3, ρ 4, ρ 5, ρ 6, ρ 7, ρ 8] := ha
  subst ha
  subst hg
  have hJ : jn74 [ρ 0, ρ 1, ρ 2, ρ 3, ρ 4, ρ 5, ρ 6, ρ 7, ρ 8] (γ 0) 0 [ρ 0, ρ 1, ρ 2, ρ 3, ρ 4, ρ 5, ρ 6, ρ 7, ρ 8, ρ 9, ρ 10, ρ 11, ρ 12] (γ 1) := hJ
  obtain ⟨-, -, -, -, -, -, -, -, -, -, -, r11, -⟩ := hr
  have r11 : (1 : Int) ≤ ρ 11 ∧ ρ 11 ≤ 3 := r11
  have w_0 : ρ 11 ≠ 0 := by omega
  obtain ⟨m0, -, -, -, -, -, -, -, -, m9, m10, -⟩ := hm
  have m0 : γ 0 73 0 61 = ρ 0 := m0
  have m9 : γ 1 15 0 72 = ρ 10 := m9
  have m10 : γ 1 15 0 77 = ρ 11 := m10
  show sn74 [ρ 0, ρ 1, ρ 2, ρ 3, ρ 4, ρ 5, ρ 6, ρ 7, ρ 8] (γ 0) 0 0 (γ 1)
  have hD : en74 (γ 0) (0, [ρ 9], γ 1) = .inr (0, 0, γ 1) := by
    unfold en74
    refine (if_pos (show (0 : Nat) = 0 by decide)).trans ?_
    refine (zLet_eq (show _ = γ 1 from rfl)).trans ?_
    refine (zLet_eq (show _ = ρ 9 from rfl)).trans ?_
    refine (zLet_eq m0).trans ?_
    refine (zLet_eq m9).trans ?_
    refine (zLet_eq m10).trans ?_
    refine (if_pos w_0).trans ?_
    rfl
  exact zGoo_aend hJ hD
set_option maxRecDepth 100000 in
theorem vn74a0_1 {S : Nat → zSpc} (hS62 : ∀ x g o v gz, S 62 x g o v gz → sn62 x g o v gz) (hS63 : ∀ x g o v gz, S 63 x g o v gz → sn63 x g o v gz) (hS64 : ∀ x g o v gz, S 64 x g o v gz → sn64 x g o v gz) (hS65 : ∀ x g o v gz, S 65 x g o v gz → sn65 x g o v gz) (hS66 : ∀ x g o v gz, S 66 x g o v gz → sn66 x g o v gz) {a : List Int} {g : rHp} : ∀ (ρ : Nat → Int) (γ : Nat → rHp), jn74 a g 0 (zAg (zNA a74_ 0) ρ) (γ 1) → zO 9 S a g q74a0_1 ρ γ → zGl (fun i vs g1 => jn74 a g i vs g1) (sn74 a g) q74a0_1 ρ γ := by
  intro ρ γ hJ h
  obtain ⟨ha, hg, hr, hf, hm, hc, hl⟩ := h
  have ha : a = [ρ 0, ρ 1, ρ 2, ρ 3, ρ 4, ρ 5, ρ 6, ρ 7, ρ 8] := ha
  subst ha
  subst hg
  have hJ : jn74 [ρ 0, ρ 1, ρ 2, ρ 3, ρ 4, ρ 5, ρ 6, ρ 7, ρ 8] (γ 0) 0 [ρ 0, ρ 1, ρ 2, ρ 3, ρ 4, ρ 5, ρ 6, ρ 7, ρ 8, ρ 9, ρ 10, ρ 11, ρ 12] (γ 1) := hJ
  obtain ⟨-, -, -, -, -, -, -, -, -, -, r10, r11, -, r13, -, -, r16, -⟩ := hr
  have r10 : (0 : Int) ≤ ρ 10 ∧ ρ 10 ≤ 49999 := r10
  have r11 : (0 : Int) ≤ ρ 11 ∧ ρ 11 ≤ 0 := r11
  have r13 : (0 : Int) ≤ ρ 13 ∧ ρ 13 ≤ 0 := r13
  have r16 : (0 : Int) ≤ ρ 16 ∧ ρ 16 ≤ 1999 := r16
  obtain ⟨-, -, f2, -⟩ := hf
  have f2 : (0 : Int) ≤ -ρ 9 + ρ 0 + (-1) := f2
  obtain ⟨w_0, w_1, w_2, w_3, w_4, w_5⟩ : (¬ (ρ 11 ≠ 0)) ∧ (ρ 9 ≠ ρ 0) ∧ (0 ≤ -ρ 13 + 4) ∧ (ρ 13 = 0) ∧ (ρ 16 ≥ 0) ∧ (ρ 10 + 1 ≤ 50000) := ⟨by omega, by omega, by omega, by omega, by omega, by omega⟩
  obtain ⟨m0, -, -, -, -, -, -, -, -, m9, m10, -, m12, m13, m14, -⟩ := hm
  have m0 : γ 0 73 0 61 = ρ 0 := m0
  have m9 : γ 1 15 0 72 = ρ 10 := m9
  have m10 : γ 1 15 0 77 = ρ 11 := m10
  have m12 : γ 0 77 0 (ρ 9 + 488) = ρ 13 := m12
  have m13 : γ 0 78 0 (ρ 9 + 488) = ρ 14 := m13
  have m14 : γ 0 100 0 (ρ 14) = ρ 15 := m14
  obtain ⟨⟨⟨-, c3⟩, c4⟩, -⟩ := hc
  have c3 : γ 3 = rUp (γ 2) 15 0 72 (ρ 10 + 1) := c3
  have c4 : γ 4 = rUp (γ 3) 104 0 (ρ 9) (ρ 16) := c4
  obtain ⟨l0, l1, -⟩ := hl
  have l0 : sn62 [61, ρ 9, ρ 15, ρ 6, ρ 5, ρ 7, ρ 8] (γ 1) 0 (ρ 16) (γ 2) := hS62 _ _ _ _ _ l0
  have l1 : sn63 [ρ 9 + 488, ρ 16] (γ 4) 0 0 (γ 5) := hS63 _ _ _ _ _ l1
  show jn74 [ρ 0, ρ 1, ρ 2, ρ 3, ρ 4, ρ 5, ρ 6, ρ 7, ρ 8] (γ 0) 0 [ρ 0, ρ 1, ρ 2, ρ 3, ρ 4, ρ 5, ρ 6, ρ 7, ρ 8, ρ 9 + 1, ρ 10 + 1, ρ 11, ρ 12] (γ 5)
  have hD : en74 (γ 0) (0, [ρ 9], γ 1) = .inl (0, [ρ 9 + 1], γ 5) := by
    unfold en74
    refine (if_pos (show (0 : Nat) = 0 by decide)).trans ?_
    refine (zLet_eq (show _ = γ 1 from rfl)).trans ?_
    refine (zLet_eq (show _ = ρ 9 from rfl)).trans ?_
    refine (zLet_eq m0).trans ?_
    refine (zLet_eq m9).trans ?_
    refine (zLet_eq m10).trans ?_
    refine (if_neg w_0).trans ?_
    refine (if_pos w_1).trans ?_
    refine (zLet_eq m12).trans ?_
    refine (if_pos w_2).trans ?_
    refine (if_pos w_3).trans ?_
    refine (zLet_eq m13).trans ?_
    refine (zLet_eq m14).trans ?_
    refine (zLet_eq (show fn62 [61, ρ 9, ρ 15] (γ 1) = (0, ρ 16, γ 2) from l0.symm)).trans ?_
    refine (zLet_eq (show _ = γ 2 from rfl)).trans ?_
    refine (zLet_eq (show _ = ρ 16 from rfl)).trans ?_
    refine (if_pos w_4).trans ?_
    refine (zLet_eq c3.symm).trans ?_
    refine (if_pos w_5).trans ?_
    refine (zLet_eq c4.symm).trans ?_
    refine (zLet_eq (show fn63 [ρ 9 + 488, ρ 16] (γ 4) = (0, 0, γ 5) from l1.symm)).trans ?_
    refine (zLet_eq (show _ = γ 5 from rfl)).trans ?_
    rfl
  exact zGoo_ato hJ hD
set_option maxRecDepth 100000 in
theorem vn74a0_2 {S : Nat → zSpc} (hS62 : ∀ x g o v gz, S 62 x g o v gz → sn62 x g o v gz) (hS63 : ∀ x g o v gz, S 63 x g o v gz → sn63 x g o v gz) (hS64 : ∀ x g o v gz, S 64 x g o v gz → sn64 x g o v gz) (hS65 : ∀ x g o v gz, S 65 x g o v gz → sn65 x g o v gz) (hS66 : ∀ x g o v gz, S 66 x g o v gz → sn66 x g o v gz) {a : List Int} {g : rHp} : ∀ (ρ : Nat → Int) (γ : Nat → rHp), jn74 a g 0 (zAg (zNA a74_ 0) ρ) (γ 1) → zO 9 S a g q74a0_2 ρ γ → zGl (fun i vs g1 => jn74 a g i vs g1) (sn74 a g) q74a0_2 ρ γ := by
  intro ρ γ hJ h
  obtain ⟨ha, hg, hr, hf, hm, hc, hl⟩ := h
  have ha : a = [ρ 0, ρ 1, ρ 2, ρ 3, ρ 4, ρ 5, ρ 6, ρ 7, ρ 8] := ha
  subst ha
  subst hg
  have hJ : jn74 [ρ 0, ρ 1, ρ 2, ρ 3, ρ 4, ρ 5, ρ 6, ρ 7, ρ 8] (γ 0) 0 [ρ 0, ρ 1, ρ 2, ρ 3, ρ 4, ρ 5, ρ 6, ρ 7, ρ 8, ρ 9, ρ 10, ρ 11, ρ 12] (γ 1) := hJ
  obtain ⟨-, -, -, -, -, -, -, -, -, -, r10, r11, -, r13, -, -, r16, -⟩ := hr
  have r10 : (50000 : Int) ≤ ρ 10 ∧ ρ 10 ≤ 50001 := r10
  have r11 : (0 : Int) ≤ ρ 11 ∧ ρ 11 ≤ 0 := r11
  have r13 : (0 : Int) ≤ ρ 13 ∧ ρ 13 ≤ 0 := r13
  have r16 : (0 : Int) ≤ ρ 16 ∧ ρ 16 ≤ 1999 := r16
  obtain ⟨-, -, f2, -⟩ := hf
  have f2 : (0 : Int) ≤ -ρ 9 + ρ 0 + (-1) := f2
  obtain ⟨w_0, w_1, w_2, w_3, w_4, w_5⟩ : (¬ (ρ 11 ≠ 0)) ∧ (ρ 9 ≠ ρ 0) ∧ (0 ≤ -ρ 13 + 4) ∧ (ρ 13 = 0) ∧ (ρ 16 ≥ 0) ∧ (¬ (ρ 10 + 1 ≤ 50000)) := ⟨by omega, by omega, by omega, by omega, by omega, by omega⟩
  obtain ⟨m0, -, -, -, -, -, -, -, -, m9, m10, -, m12, m13, m14, -⟩ := hm
  have m0 : γ 0 73 0 61 = ρ 0 := m0
  have m9 : γ 1 15 0 72 = ρ 10 := m9
  have m10 : γ 1 15 0 77 = ρ 11 := m10
  have m12 : γ 0 77 0 (ρ 9 + 488) = ρ 13 := m12
  have m13 : γ 0 78 0 (ρ 9 + 488) = ρ 14 := m13
  have m14 : γ 0 100 0 (ρ 14) = ρ 15 := m14
  obtain ⟨⟨⟨⟨-, c3⟩, c4⟩, c5⟩, -⟩ := hc
  have c3 : γ 3 = rUp (γ 2) 15 0 72 (ρ 10 + 1) := c3
  have c4 : γ 4 = rUp (γ 3) 15 0 77 2 := c4
  have c5 : γ 5 = rUp (γ 4) 104 0 (ρ 9) (ρ 16) := c5
  obtain ⟨l0, l1, -⟩ := hl
  have l0 : sn62 [61, ρ 9, ρ 15, ρ 6, ρ 5, ρ 7, ρ 8] (γ 1) 0 (ρ 16) (γ 2) := hS62 _ _ _ _ _ l0
  have l1 : sn63 [ρ 9 + 488, ρ 16] (γ 5) 0 0 (γ 6) := hS63 _ _ _ _ _ l1
  show jn74 [ρ 0, ρ 1, ρ 2, ρ 3, ρ 4, ρ 5, ρ 6, ρ 7, ρ 8] (γ 0) 0 [ρ 0, ρ 1, ρ 2, ρ 3, ρ 4, ρ 5, ρ 6, ρ 7, ρ 8, ρ 9 + 1, ρ 10 + 1, 2, ρ 12] (γ 6)
  have hD : en74 (γ 0) (0, [ρ 9], γ 1) = .inl (0, [ρ 9 + 1], γ 6) := by
    unfold en74
    refine (if_pos (show (0 : Nat) = 0 by decide)).trans ?_
    refine (zLet_eq (show _ = γ 1 from rfl)).trans ?_
    refine (zLet_eq (show _ = ρ 9 from rfl)).trans ?_
    refine (zLet_eq m0).trans ?_
    refine (zLet_eq m9).trans ?_
    refine (zLet_eq m10).trans ?_
    refine (if_neg w_0).trans ?_
    refine (if_pos w_1).trans ?_
    refine (zLet_eq m12).trans ?_
    refine (if_pos w_2).trans ?_
    refine (if_pos w_3).trans ?_
    refine (zLet_eq m13).trans ?_
    refine (zLet_eq m14).trans ?_
    refine (zLet_eq (show fn62 [61, ρ 9, ρ 15] (γ 1) = (0, ρ 16, γ 2) from l0.symm)).trans ?_
    refine (zLet_eq (show _ = γ 2 from rfl)).trans ?_
    refine (zLet_eq (show _ = ρ 16 from rfl)).trans ?_
    refine (if_pos w_4).trans ?_
    refine (zLet_eq c3.symm).trans ?_
    refine (if_neg w_5).trans ?_
    refine (zLet_eq c4.symm).trans ?_
    refine (zLet_eq c5.symm).trans ?_
    refine (zLet_eq (show fn63 [ρ 9 + 488, ρ 16] (γ 5) = (0, 0, γ 6) from l1.symm)).trans ?_
    refine (zLet_eq (show _ = γ 6 from rfl)).trans ?_
    rfl
  exact zGoo_ato hJ hD
set_option maxRecDepth 100000 in
theorem vn74a0_3 {S : Nat → zSpc} (hS62 : ∀ x g o v gz, S 62 x g o v gz → sn62 x g o v gz) (hS63 : ∀ x g o v gz, S 63 x g o v gz → sn63 x g o v gz) (hS64 : ∀ x g o v gz, S 64 x g o v gz → sn64 x g o v gz) (hS65 : ∀ x g o v gz, S 65 x g o v gz → sn65 x g o v gz) (hS66 : ∀ x g o v gz, S 66 x g o v gz → sn66 x g o v gz) {a : List Int} {g : rHp} : ∀ (ρ : Nat → Int) (γ : Nat → rHp), jn74 a g 0 (zAg (zNA a74_ 0) ρ) (γ 1) → zO 9 S a g q74a0_3 ρ γ → zGl (fun i vs g1 => jn74 a g i vs g1) (sn74 a g) q74a0_3 ρ γ := by
  intro ρ γ hJ h
  obtain ⟨ha, hg, hr, hf, hm, hc, hl⟩ := h
  have ha : a = [ρ 0, ρ 1, ρ 2, ρ 3, ρ 4, ρ 5, ρ 6, ρ 7, ρ 8] := ha
  subst ha
  subst hg
  have hJ : jn74 [ρ 0, ρ 1, ρ 2, ρ 3, ρ 4, ρ 5, ρ 6, ρ 7, ρ 8] (γ 0) 0 [ρ 0, ρ 1, ρ 2, ρ 3, ρ 4, ρ 5, ρ 6, ρ 7, ρ 8, ρ 9, ρ 10, ρ 11, ρ 12] (γ 1) := hJ
  obtain ⟨-, -, -, -, -, -, -, -, -, -, -, r11, -, r13, -, -, r16, -⟩ := hr
  have r11 : (0 : Int) ≤ ρ 11 ∧ ρ 11 ≤ 0 := r11
  have r13 : (0 : Int) ≤ ρ 13 ∧ ρ 13 ≤ 0 := r13
  have r16 : ((-1) : Int) ≤ ρ 16 ∧ ρ 16 ≤ (-1) := r16
  obtain ⟨-, -, f2, -⟩ := hf
  have f2 : (0 : Int) ≤ -ρ 9 + ρ 0 + (-1) := f2
  obtain ⟨w_0, w_1, w_2, w_3, w_4⟩ : (¬ (ρ 11 ≠ 0)) ∧ (ρ 9 ≠ ρ 0) ∧ (0 ≤ -ρ 13 + 4) ∧ (ρ 13 = 0) ∧ (¬ (ρ 16 ≥ 0)) := ⟨by omega, by omega, by omega, by omega, by omega⟩
  obtain ⟨m0, -, -, -, -, -, -, -, -, m9, m10, -, m12, m13, m14, -⟩ := hm
  have m0 : γ 0 73 0 61 = ρ 0 := m0
  have m9 : γ 1 15 0 72 = ρ 10 := m9
  have m10 : γ 1 15 0 77 = ρ 11 := m10
  have m12 : γ 0 77 0 (ρ 9 + 488) = ρ 13 := m12
  have m13 : γ 0 78 0 (ρ 9 + 488) = ρ 14 := m13
  have m14 : γ 0 100 0 (ρ 14) = ρ 15 := m14
  obtain ⟨l0, -⟩ := hl
  have l0 : sn62 [61, ρ 9, ρ 15, ρ 6, ρ 5, ρ 7, ρ 8] (γ 1) 0 (ρ 16) (γ 2) := hS62 _ _ _ _ _ l0
  show jn74 [ρ 0, ρ 1, ρ 2, ρ 3, ρ 4, ρ 5, ρ 6, ρ 7, ρ 8] (γ 0) 1 [ρ 0, ρ 1, ρ 2, ρ 3, ρ 4, ρ 5, ρ 6, ρ 7, ρ 8, ρ 9 + (-1), ρ 9 + 488, ρ 10, ρ 12] (γ 2)
  have hD : en74 (γ 0) (0, [ρ 9], γ 1) = .inl (1, [ρ 9 + (-1), ρ 9 + 488], γ 2) := by
    unfold en74
    refine (if_pos (show (0 : Nat) = 0 by decide)).trans ?_
    refine (zLet_eq (show _ = γ 1 from rfl)).trans ?_
    refine (zLet_eq (show _ = ρ 9 from rfl)).trans ?_
    refine (zLet_eq m0).trans ?_
    refine (zLet_eq m9).trans ?_
    refine (zLet_eq m10).trans ?_
    refine (if_neg w_0).trans ?_
    refine (if_pos w_1).trans ?_
    refine (zLet_eq m12).trans ?_
    refine (if_pos w_2).trans ?_
    refine (if_pos w_3).trans ?_
    refine (zLet_eq m13).trans ?_
    refine (zLet_eq m14).trans ?_
    refine (zLet_eq (show fn62 [61, ρ 9, ρ 15] (γ 1) = (0, ρ 16, γ 2) from l0.symm)).trans ?_
    refine (zLet_eq (show _ = γ 2 from rfl)).trans ?_
    refine (zLet_eq (show _ = ρ 16 from rfl)).trans ?_
    refine (if_neg w_4).trans ?_
    rfl
  exact zGoo_ato hJ hD
set_option maxRecDepth 100000 in
theorem vn74a0_4 {S : Nat → zSpc} (hS62 : ∀ x g o v gz, S 62 x g o v gz → sn62 x g o v gz) (hS63 : ∀ x g o v gz, S 63 x g o v gz → sn63 x g o v gz) (hS64 : ∀ x g o v gz, S 64 x g o v gz → sn64 x g o v gz) (hS65 : ∀ x g o v gz, S 65 x g o v gz → sn65 x g o v gz) (hS66 : ∀ x g o v gz, S 66 x g o v gz → sn66 x g o v gz) {a : List Int} {g : rHp} : ∀ (ρ : Nat → Int) (γ : Nat → rHp), jn74 a g 0 (zAg (zNA a74_ 0) ρ) (γ 1) → zO 9 S a g q74a0_4 ρ γ → zGl (fun i vs g1 => jn74 a g i vs g1) (sn74 a g) q74a0_4 ρ γ := by
  intro ρ γ hJ h
  obtain ⟨ha, hg, hr, hf, hm, hc, hl⟩ := h
  have ha : a = [ρ 0, ρ 1, ρ 2, ρ 3, ρ 4, ρ 5, ρ 6, ρ 7, ρ 8] := ha
  subst ha
  subst hg
  have hJ : jn74 [ρ 0, ρ 1, ρ 2, ρ 3, ρ 4, ρ 5, ρ 6, ρ 7, ρ 8] (γ 0) 0 [ρ 0, ρ 1, ρ 2, ρ 3, ρ 4, ρ 5, ρ 6, ρ 7, ρ 8, ρ 9, ρ 10, ρ 11, ρ 12] (γ 1) := hJ
  obtain ⟨-, -, -, -, -, -, -, -, -, -, -, r11, -, r13, -⟩ := hr
  have r11 : (0 : Int) ≤ ρ 11 ∧ ρ 11 ≤ 0 := r11
  have r13 : (1 : Int) ≤ ρ 13 ∧ ρ 13 ≤ 4 := r13
  obtain ⟨-, f1, -⟩ := hf
  have f1 : (0 : Int) ≤ -ρ 9 + ρ 0 + (-1) := f1
  obtain ⟨w_0, w_1, w_2, w_3⟩ : (¬ (ρ 11 ≠ 0)) ∧ (ρ 9 ≠ ρ 0) ∧ (0 ≤ -ρ 13 + 4) ∧ (¬ (ρ 13 = 0)) := ⟨by omega, by omega, by omega, by omega⟩
  obtain ⟨m0, -, -, -, -, -, -, -, -, m9, m10, -, m12, -⟩ := hm
  have m0 : γ 0 73 0 61 = ρ 0 := m0
  have m9 : γ 1 15 0 72 = ρ 10 := m9
  have m10 : γ 1 15 0 77 = ρ 11 := m10
  have m12 : γ 0 77 0 (ρ 9 + 488) = ρ 13 := m12
  obtain ⟨l0, -⟩ := hl
  have l0 : sn64 [ρ 9 + 488, ρ 13, ρ 14, ρ 6, ρ 5] (γ 1) 0 0 (γ 2) := hS64 _ _ _ _ _ l0
  show jn74 [ρ 0, ρ 1, ρ 2, ρ 3, ρ 4, ρ 5, ρ 6, ρ 7, ρ 8] (γ 0) 1 [ρ 0, ρ 1, ρ 2, ρ 3, ρ 4, ρ 5, ρ 6, ρ 7, ρ 8, ρ 9 + (-1), ρ 9 + 488, ρ 10, ρ 12] (γ 2)
  have hD : en74 (γ 0) (0, [ρ 9], γ 1) = .inl (1, [ρ 9 + (-1), ρ 9 + 488], γ 2) := by
    unfold en74
    refine (if_pos (show (0 : Nat) = 0 by decide)).trans ?_
    refine (zLet_eq (show _ = γ 1 from rfl)).trans ?_
    refine (zLet_eq (show _ = ρ 9 from rfl)).trans ?_
    refine (zLet_eq m0).trans ?_
    refine (zLet_eq m9).trans ?_
    refine (zLet_eq m10).trans ?_
    refine (if_neg w_0).trans ?_
    refine (if_pos w_1).trans ?_
    refine (zLet_eq m12).trans ?_
    refine (if_pos w_2).trans ?_
    refine (if_neg w_3).trans ?_
    refine (zLet_eq (show fn64 [ρ 9 + 488] (γ 1) = (0, 0, γ 2) from l0.symm)).trans ?_
    refine (zLet_eq (show _ = γ 2 from rfl)).trans ?_
    refine (if_neg zQ0_).trans ?_
    rfl
  exact zGoo_ato hJ hD
set_option maxRecDepth 100000 in
theorem vn74a0_5 {S : Nat → zSpc} (hS62 : ∀ x g o v gz, S 62 x g o v gz → sn62 x g o v gz) (hS63 : ∀ x g o v gz, S 63 x g o v gz → sn63 x g o v gz) (hS64 : ∀ x g o v gz, S 64 x g o v gz → sn64 x g o v gz) (hS65 : ∀ x g o v gz, S 65 x g o v gz → sn65 x g o v gz) (hS66 : ∀ x g o v gz, S 66 x g o v gz → sn66 x g o v gz) {a : List Int} {g : rHp} : ∀ (ρ : Nat → Int) (γ : Nat → rHp), jn74 a g 0 (zAg (zNA a74_ 0) ρ) (γ 1) → zO 9 S a g q74a0_5 ρ γ → zGl (fun i vs g1 => jn74 a g i vs g1) (sn74 a g) q74a0_5 ρ γ := by
  intro ρ γ hJ h
  obtain ⟨ha, hg, hr, hf, hm, hc, hl⟩ := h
  have ha : a = [ρ 0, ρ 1, ρ 2, ρ 3, ρ 4, ρ 5, ρ 6, ρ 7, ρ 8] := ha
  subst ha
  subst hg
  have hJ : jn74 [ρ 0, ρ 1, ρ 2, ρ 3, ρ 4, ρ 5, ρ 6, ρ 7, ρ 8] (γ 0) 0 [ρ 0, ρ 1, ρ 2, ρ 3, ρ 4, ρ 5, ρ 6, ρ 7, ρ 8, ρ 9, ρ 10, ρ 11, ρ 12] (γ 1) := hJ
  obtain ⟨-, -, -, -, -, -, -, -, -, -, -, r11, -, r13, -⟩ := hr
  have r11 : (0 : Int) ≤ ρ 11 ∧ ρ 11 ≤ 0 := r11
  have r13 : (1 : Int) ≤ ρ 13 ∧ ρ 13 ≤ 4 := r13
  obtain ⟨-, f1, -⟩ := hf
  have f1 : (0 : Int) ≤ -ρ 9 + ρ 0 + (-1) := f1
  obtain ⟨w_0, w_1, w_2, w_3⟩ : (¬ (ρ 11 ≠ 0)) ∧ (ρ 9 ≠ ρ 0) ∧ (0 ≤ -ρ 13 + 4) ∧ (¬ (ρ 13 = 0)) := ⟨by omega, by omega, by omega, by omega⟩
  obtain ⟨m0, -, -, -, -, -, -, -, -, m9, m10, -, m12, -⟩ := hm
  have m0 : γ 0 73 0 61 = ρ 0 := m0
  have m9 : γ 1 15 0 72 = ρ 10 := m9
  have m10 : γ 1 15 0 77 = ρ 11 := m10
  have m12 : γ 0 77 0 (ρ 9 + 488) = ρ 13 := m12
  obtain ⟨l0, -⟩ := hl
  have l0 : sn64 [ρ 9 + 488, ρ 13, ρ 14, ρ 6, ρ 5] (γ 1) 0 1 (γ 2) := hS64 _ _ _ _ _ l0
  show jn74 [ρ 0, ρ 1, ρ 2, ρ 3, ρ 4, ρ 5, ρ 6, ρ 7, ρ 8] (γ 0) 0 [ρ 0, ρ 1, ρ 2, ρ 3, ρ 4, ρ 5, ρ 6, ρ 7, ρ 8, ρ 9 + 1, ρ 10, ρ 11, ρ 12] (γ 2)
  have hD : en74 (γ 0) (0, [ρ 9], γ 1) = .inl (0, [ρ 9 + 1], γ 2) := by
    unfold en74
    refine (if_pos (show (0 : Nat) = 0 by decide)).trans ?_
    refine (zLet_eq (show _ = γ 1 from rfl)).trans ?_
    refine (zLet_eq (show _ = ρ 9 from rfl)).trans ?_
    refine (zLet_eq m0).trans ?_
    refine (zLet_eq m9).trans ?_
    refine (zLet_eq m10).trans ?_
    refine (if_neg w_0).trans ?_
    refine (if_pos w_1).trans ?_
    refine (zLet_eq m12).trans ?_
    refine (if_pos w_2).trans ?_
    refine (if_neg w_3).trans ?_
    refine (zLet_eq (show fn64 [ρ 9 + 488] (γ 1) = (0, 1, γ 2) from l0.symm)).trans ?_
    refine (zLet_eq (show _ = γ 2 from rfl)).trans ?_
    refine (if_pos zQ1_).trans ?_
    rfl
  exact zGoo_ato hJ hD
set_option maxRecDepth 100000 in
theorem vn74a0_6 {S : Nat → zSpc} (hS62 : ∀ x g o v gz, S 62 x g o v gz → sn62 x g o v gz) (hS63 : ∀ x g o v gz, S 63 x g o v gz → sn63 x g o v gz) (hS64 : ∀ x g o v gz, S 64 x g o v gz → sn64 x g o v gz) (hS65 : ∀ x g o v gz, S 65 x g o v gz → sn65 x g o v gz) (hS66 : ∀ x g o v gz, S 66 x g o v gz → sn66 x g o v gz) {a : List Int} {g : rHp} : ∀ (ρ : Nat → Int) (γ : Nat → rHp), jn74 a g 0 (zAg (zNA a74_ 0) ρ) (γ 1) → zO 9 S a g q74a0_6 ρ γ → zGl (fun i vs g1 => jn74 a g i vs g1) (sn74 a g) q74a0_6 ρ γ := by
  intro ρ γ hJ h
  obtain ⟨ha, hg, hr, hf, hm, hc, hl⟩ := h
  have ha : a = [ρ 0, ρ 1, ρ 2, ρ 3, ρ 4, ρ 5, ρ 6, ρ 7, ρ 8] := ha
  subst ha
  subst hg
  have hJ : jn74 [ρ 0, ρ 1, ρ 2, ρ 3, ρ 4, ρ 5, ρ 6, ρ 7, ρ 8] (γ 0) 0 [ρ 0, ρ 1, ρ 2, ρ 3, ρ 4, ρ 5, ρ 6, ρ 7, ρ 8, ρ 9, ρ 10, ρ 11, ρ 12] (γ 1) := hJ
  obtain ⟨-, -, -, -, -, -, -, -, -, -, -, r11, -, r13, -⟩ := hr
  have r11 : (0 : Int) ≤ ρ 11 ∧ ρ 11 ≤ 0 := r11
  have r13 : (5 : Int) ≤ ρ 13 ∧ ρ 13 ≤ 7 := r13
  obtain ⟨-, f1, -⟩ := hf
  have f1 : (0 : Int) ≤ -ρ 9 + ρ 0 + (-1) := f1
  obtain ⟨w_0, w_1, w_2⟩ : (¬ (ρ 11 ≠ 0)) ∧ (ρ 9 ≠ ρ 0) ∧ (¬ (0 ≤ -ρ 13 + 4)) := ⟨by omega, by omega, by omega⟩
  obtain ⟨m0, -, -, -, -, -, -, -, -, m9, m10, -, m12, -⟩ := hm
  have m0 : γ 0 73 0 61 = ρ 0 := m0
  have m9 : γ 1 15 0 72 = ρ 10 := m9
  have m10 : γ 1 15 0 77 = ρ 11 := m10
  have m12 : γ 0 77 0 (ρ 9 + 488) = ρ 13 := m12
  obtain ⟨l0, -⟩ := hl
  have l0 : sn65 [ρ 9 + 488, ρ 13, ρ 14, ρ 6, ρ 5] (γ 1) 0 0 (γ 2) := hS65 _ _ _ _ _ l0
  show jn74 [ρ 0, ρ 1, ρ 2, ρ 3, ρ 4, ρ 5, ρ 6, ρ 7, ρ 8] (γ 0) 1 [ρ 0, ρ 1, ρ 2, ρ 3, ρ 4, ρ 5, ρ 6, ρ 7, ρ 8, ρ 9 + (-1), ρ 9 + 488, ρ 10, ρ 12] (γ 2)
  have hD : en74 (γ 0) (0, [ρ 9], γ 1) = .inl (1, [ρ 9 + (-1), ρ 9 + 488], γ 2) := by
    unfold en74
    refine (if_pos (show (0 : Nat) = 0 by decide)).trans ?_
    refine (zLet_eq (show _ = γ 1 from rfl)).trans ?_
    refine (zLet_eq (show _ = ρ 9 from rfl)).trans ?_
    refine (zLet_eq m0).trans ?_
    refine (zLet_eq m9).trans ?_
    refine (zLet_eq m10).trans ?_
    refine (if_neg w_0).trans ?_
    refine (if_pos w_1).trans ?_
    refine (zLet_eq m12).trans ?_
    refine (if_neg w_2).trans ?_
    refine (zLet_eq (show fn65 [ρ 9 + 488] (γ 1) = (0, 0, γ 2) from l0.symm)).trans ?_
    refine (zLet_eq (show _ = γ 2 from rfl)).trans ?_
    refine (if_neg zQ0_).trans ?_
    rfl
  exact zGoo_ato hJ hD
set_option maxRecDepth 100000 in
theorem vn74a0_7 {S : Nat → zSpc} (hS62 : ∀ x g o v gz, S 62 x g o v gz → sn62 x g o v gz) (hS63 : ∀ x g o v gz, S 63 x g o v gz → sn63 x g o v gz) (hS64 : ∀ x g o v gz, S 64 x g o v gz → sn64 x g o v gz) (hS65 : ∀ x g o v gz, S 65 x g o v gz → sn65 x g o v gz) (hS66 : ∀ x g o v gz, S 66 x g o v gz → sn66 x g o v gz) {a : List Int} {g : rHp} : ∀ (ρ : Nat → Int) (γ : Nat → rHp), jn74 a g 0 (zAg (zNA a74_ 0) ρ) (γ 1) → zO 9 S a g q74a0_7 ρ γ → zGl (fun i vs g1 => jn74 a g i vs g1) (sn74 a g) q74a0_7 ρ γ := by
  intro ρ γ hJ h
  obtain ⟨ha, hg, hr, hf, hm, hc, hl⟩ := h
  have ha : a = [ρ 0, ρ 1, ρ 2, ρ 3, ρ 4, ρ 5, ρ 6, ρ 7, ρ 8] := ha
  subst ha
  subst hg
  have hJ : jn74 [ρ 0, ρ 1, ρ 2, ρ 3, ρ 4, ρ 5, ρ 6, ρ 7, ρ 8] (γ 0) 0 [ρ 0, ρ 1, ρ 2, ρ 3, ρ 4, ρ 5, ρ 6, ρ 7, ρ 8, ρ 9, ρ 10, ρ 11, ρ 12] (γ 1) := hJ
  obtain ⟨-, -, -, -, -, -, -, -, -, -, -, r11, -, r13, -⟩ := hr
  have r11 : (0 : Int) ≤ ρ 11 ∧ ρ 11 ≤ 0 := r11
  have r13 : (5 : Int) ≤ ρ 13 ∧ ρ 13 ≤ 7 := r13
  obtain ⟨-, f1, -⟩ := hf
  have f1 : (0 : Int) ≤ -ρ 9 + ρ 0 + (-1) := f1
  obtain ⟨w_0, w_1, w_2⟩ : (¬ (ρ 11 ≠ 0)) ∧ (ρ 9 ≠ ρ 0) ∧ (¬ (0 ≤ -ρ 13 + 4)) := ⟨by omega, by omega, by omega⟩
  obtain ⟨m0, -, -, -, -, -, -, -, -, m9, m10, -, m12, -⟩ := hm
  have m0 : γ 0 73 0 61 = ρ 0 := m0
  have m9 : γ 1 15 0 72 = ρ 10 := m9
  have m10 : γ 1 15 0 77 = ρ 11 := m10
  have m12 : γ 0 77 0 (ρ 9 + 488) = ρ 13 := m12
  obtain ⟨l0, -⟩ := hl
  have l0 : sn65 [ρ 9 + 488, ρ 13, ρ 14, ρ 6, ρ 5] (γ 1) 0 1 (γ 2) := hS65 _ _ _ _ _ l0
  show jn74 [ρ 0, ρ 1, ρ 2, ρ 3, ρ 4, ρ 5, ρ 6, ρ 7, ρ 8] (γ 0) 0 [ρ 0, ρ 1, ρ 2, ρ 3, ρ 4, ρ 5, ρ 6, ρ 7, ρ 8, ρ 9 + 1, ρ 10, ρ 11, ρ 12] (γ 2)
  have hD : en74 (γ 0) (0, [ρ 9], γ 1) = .inl (0, [ρ 9 + 1], γ 2) := by
    unfold en74
    refine (if_pos (show (0 : Nat) = 0 by decide)).trans ?_
    refine (zLet_eq (show _ = γ 1 from rfl)).trans ?_
    refine (zLet_eq (show _ = ρ 9 from rfl)).trans ?_
    refine (zLet_eq m0).trans ?_
    refine (zLet_eq m9).trans ?_
    refine (zLet_eq m10).trans ?_
    refine (if_neg w_0).trans ?_
    refine (if_pos w_1).trans ?_
    refine (zLet_eq m12).trans ?_
    refine (if_neg w_2).trans ?_
    refine (zLet_eq (show fn65 [ρ 9 + 488] (γ 1) = (0, 1, γ 2) from l0.symm)).trans ?_
    refine (zLet_eq (show _ = γ 2 from rfl)).trans ?_
    refine (if_pos zQ1_).trans ?_
    rfl
  exact zGoo_ato hJ hD
set_option maxRecDepth 100000 in
theorem vn74a0_8 {S : Nat → zSpc} (hS62 : ∀ x g o v gz, S 62 x g o v gz → sn62 x g o v gz) (hS63 : ∀ x g o v gz, S 63 x g o v gz → sn63 x g o v gz) (hS64 : ∀ x g o v gz, S 64 x g o v gz → sn64 x g o v gz) (hS65 : ∀ x g o v gz, S 65 x g o v gz → sn65 x g o v gz) (hS66 : ∀ x g o v gz, S 66 x g o v gz → sn66 x g o v gz) {a : List Int} {g : rHp} : ∀ (ρ : Nat → Int) (γ : Nat → rHp), jn74 a g 0 (zAg (zNA a74_ 0) ρ) (γ 1) → zO 9 S a g q74a0_8 ρ γ → zGl (fun i vs g1 => jn74 a g i vs g1) (sn74 a g) q74a0_8 ρ γ := by
  intro ρ γ hJ h
  obtain ⟨ha, hg, hr, hf, hm, hc, hl⟩ := h
  have ha : a = [ρ 0, ρ 1, ρ 2, ρ 3, ρ 4, ρ 5, ρ 6, ρ 7, ρ 8] := ha
  subst ha
  subst hg
  have hJ : jn74 [ρ 0, ρ 1, ρ 2, ρ 3, ρ 4, ρ 5, ρ 6, ρ 7, ρ 8] (γ 0) 0 [ρ 0, ρ 1, ρ 2, ρ 3, ρ 4, ρ 5, ρ 6, ρ 7, ρ 8, ρ 9, ρ 10, ρ 11, ρ 12] (γ 1) := hJ
  obtain ⟨-, -, -, -, -, -, -, -, -, -, -, r11, -⟩ := hr
  have r11 : (0 : Int) ≤ ρ 11 ∧ ρ 11 ≤ 0 := r11
  obtain ⟨f0, f1, -⟩ := hf
  have f0 : (0 : Int) ≤ -ρ 9 + ρ 0 := f0
  have f1 : (0 : Int) ≤ ρ 9 + -ρ 0 := f1
  obtain ⟨w_0, w_1⟩ : (¬ (ρ 11 ≠ 0)) ∧ (¬ (ρ 9 ≠ ρ 0)) := ⟨by omega, by omega⟩
  obtain ⟨m0, -, -, -, -, -, -, -, -, m9, m10, -⟩ := hm
  have m0 : γ 0 73 0 61 = ρ 0 := m0
  have m9 : γ 1 15 0 72 = ρ 10 := m9
  have m10 : γ 1 15 0 77 = ρ 11 := m10
  obtain ⟨l0, -⟩ := hl
  have l0 : sn66 [ρ 12] (γ 1) 0 0 (γ 2) := hS66 _ _ _ _ _ l0
  show jn74 [ρ 0, ρ 1, ρ 2, ρ 3, ρ 4, ρ 5, ρ 6, ρ 7, ρ 8] (γ 0) 1 [ρ 0, ρ 1, ρ 2, ρ 3, ρ 4, ρ 5, ρ 6, ρ 7, ρ 8, ρ 9 + (-1), ρ 9 + 488, ρ 10, ρ 12 + 1] (γ 2)
  have hD : en74 (γ 0) (0, [ρ 9], γ 1) = .inl (1, [ρ 9 + (-1), ρ 9 + 488], γ 2) := by
    unfold en74
    refine (if_pos (show (0 : Nat) = 0 by decide)).trans ?_
    refine (zLet_eq (show _ = γ 1 from rfl)).trans ?_
    refine (zLet_eq (show _ = ρ 9 from rfl)).trans ?_
    refine (zLet_eq m0).trans ?_
    refine (zLet_eq m9).trans ?_
    refine (zLet_eq m10).trans ?_
    refine (if_neg w_0).trans ?_
    refine (if_neg w_1).trans ?_
    refine (zLet_eq (show fn66 [] (γ 1) = (0, 0, γ 2) from l0.symm)).trans ?_
    refine (zLet_eq (show _ = γ 2 from rfl)).trans ?_
    rfl
  exact zGoo_ato hJ hD
set_option maxRecDepth 100000 in
theorem vn74a1_0 {S : Nat → zSpc} (hS62 : ∀ x g o v gz, S 62 x g o v gz → sn62 x g o v gz) (hS63 : ∀ x g o v gz, S 63 x g o v gz → sn63 x g o v gz) (hS64 : ∀ x g o v gz, S 64 x g o v gz → sn64 x g o v gz) (hS65 : ∀ x g o v gz, S 65 x g o v gz → sn65 x g o v gz) (hS66 : ∀ x g o v gz, S 66 x g o v gz → sn66 x g o v gz) {a : List Int} {g : rHp} : ∀ (ρ : Nat → Int) (γ : Nat → rHp), jn74 a g 1 (zAg (zNA a74_ 1) ρ) (γ 1) → zO 9 S a g q74a1_0 ρ γ → zGl (fun i vs g1 => jn74 a g i vs g1) (sn74 a g) q74a1_0 ρ γ := by
  intro ρ γ hJ h
  obtain ⟨ha, hg, hr, hf, hm, hc, hl⟩ := h
  have ha : a = [ρ 0, ρ 1, ρ 2, ρ 3, ρ 4, ρ 5, ρ 6, ρ 7, ρ 8] := ha
  subst ha
  subst hg
  have hJ : jn74 [ρ 0, ρ 1, ρ 2, ρ 3, ρ 4, ρ 5, ρ 6, ρ 7, ρ 8] (γ 0) 1 [ρ 0, ρ 1, ρ 2, ρ 3, ρ 4, ρ 5, ρ 6, ρ 7, ρ 8, ρ 9, ρ 10, ρ 11, ρ 12] (γ 1) := hJ
  obtain ⟨-, -, -, -, -, -, -, -, -, r9, -⟩ := hr
  have r9 : ((-1) : Int) ≤ ρ 9 ∧ ρ 9 ≤ (-1) := r9
  have w_0 : ρ 9 < 0 := by omega
  obtain ⟨-, -, -, -, -, -, -, -, -, m9, -⟩ := hm
  have m9 : γ 1 15 0 72 = ρ 11 := m9
  show sn74 [ρ 0, ρ 1, ρ 2, ρ 3, ρ 4, ρ 5, ρ 6, ρ 7, ρ 8] (γ 0) 0 0 (γ 1)
  have hD : en74 (γ 0) (1, [ρ 9, ρ 10], γ 1) = .inr (0, 0, γ 1) := by
    unfold en74
    refine (if_neg (show ¬ (1 : Nat) = 0 by decide)).trans ?_
    refine (if_pos (show (1 : Nat) = 1 by decide)).trans ?_
    refine (zLet_eq (show _ = γ 1 from rfl)).trans ?_
    refine (zLet_eq (show _ = ρ 9 from rfl)).trans ?_
    refine (zLet_eq m9).trans ?_
    refine (if_pos w_0).trans ?_
    rfl
  exact zGoo_aend hJ hD
set_option maxRecDepth 100000 in
theorem vn74a1_1 {S : Nat → zSpc} (hS62 : ∀ x g o v gz, S 62 x g o v gz → sn62 x g o v gz) (hS63 : ∀ x g o v gz, S 63 x g o v gz → sn63 x g o v gz) (hS64 : ∀ x g o v gz, S 64 x g o v gz → sn64 x g o v gz) (hS65 : ∀ x g o v gz, S 65 x g o v gz → sn65 x g o v gz) (hS66 : ∀ x g o v gz, S 66 x g o v gz → sn66 x g o v gz) {a : List Int} {g : rHp} : ∀ (ρ : Nat → Int) (γ : Nat → rHp), jn74 a g 1 (zAg (zNA a74_ 1) ρ) (γ 1) → zO 9 S a g q74a1_1 ρ γ → zGl (fun i vs g1 => jn74 a g i vs g1) (sn74 a g) q74a1_1 ρ γ := by
  intro ρ γ hJ h
  obtain ⟨ha, hg, hr, hf, hm, hc, hl⟩ := h
  have ha : a = [ρ 0, ρ 1, ρ 2, ρ 3, ρ 4, ρ 5, ρ 6, ρ 7, ρ 8] := ha
  subst ha
  subst hg
  have hJ : jn74 [ρ 0, ρ 1, ρ 2, ρ 3, ρ 4, ρ 5, ρ 6, ρ 7, ρ 8] (γ 0) 1 [ρ 0, ρ 1, ρ 2, ρ 3, ρ 4, ρ 5, ρ 6, ρ 7, ρ 8, ρ 9, ρ 10, ρ 11, ρ 12] (γ 1) := hJ
  obtain ⟨-, -, -, -, -, -, -, -, -, r9, -, r11, -, r13, -, -, r16, -⟩ := hr
  have r9 : (0 : Int) ≤ ρ 9 ∧ ρ 9 ≤ 7 := r9
  have r11 : (0 : Int) ≤ ρ 11 ∧ ρ 11 ≤ 49999 := r11
  have r13 : (0 : Int) ≤ ρ 13 ∧ ρ 13 ≤ 0 := r13
  have r16 : (0 : Int) ≤ ρ 16 ∧ ρ 16 ≤ 1999 := r16
  obtain ⟨w_0, w_1, w_2, w_3, w_4⟩ : (¬ (ρ 9 < 0)) ∧ (0 ≤ -ρ 13 + 4) ∧ (ρ 13 = 0) ∧ (ρ 16 ≥ 0) ∧ (ρ 11 + 1 ≤ 50000) := ⟨by omega, by omega, by omega, by omega, by omega⟩
  obtain ⟨-, -, -, -, -, -, -, -, -, m9, -, -, m12, m13, m14, -⟩ := hm
  have m9 : γ 1 15 0 72 = ρ 11 := m9
  have m12 : γ 0 77 0 (ρ 9 + 488) = ρ 13 := m12
  have m13 : γ 1 104 0 (ρ 9) = ρ 14 := m13
  have m14 : γ 0 96 0 (ρ 14) = ρ 15 := m14
  obtain ⟨⟨⟨-, c3⟩, c4⟩, -⟩ := hc
  have c3 : γ 3 = rUp (γ 2) 15 0 72 (ρ 11 + 1) := c3
  have c4 : γ 4 = rUp (γ 3) 104 0 (ρ 9) (ρ 16) := c4
  obtain ⟨l0, l1, -⟩ := hl
  have l0 : sn62 [61, ρ 9, ρ 15, ρ 6, ρ 5, ρ 7, ρ 8] (γ 1) 0 (ρ 16) (γ 2) := hS62 _ _ _ _ _ l0
  have l1 : sn63 [ρ 9 + 488, ρ 16] (γ 4) 0 0 (γ 5) := hS63 _ _ _ _ _ l1
  show jn74 [ρ 0, ρ 1, ρ 2, ρ 3, ρ 4, ρ 5, ρ 6, ρ 7, ρ 8] (γ 0) 0 [ρ 0, ρ 1, ρ 2, ρ 3, ρ 4, ρ 5, ρ 6, ρ 7, ρ 8, ρ 9 + 1, ρ 11 + 1, ρ 2, ρ 12] (γ 5)
  have hD : en74 (γ 0) (1, [ρ 9, ρ 10], γ 1) = .inl (0, [ρ 9 + 1], γ 5) := by
    unfold en74
    refine (if_neg (show ¬ (1 : Nat) = 0 by decide)).trans ?_
    refine (if_pos (show (1 : Nat) = 1 by decide)).trans ?_
    refine (zLet_eq (show _ = γ 1 from rfl)).trans ?_
    refine (zLet_eq (show _ = ρ 9 from rfl)).trans ?_
    refine (zLet_eq m9).trans ?_
    refine (if_neg w_0).trans ?_
    refine (zLet_eq m12).trans ?_
    refine (if_pos w_1).trans ?_
    refine (if_pos w_2).trans ?_
    refine (zLet_eq m13).trans ?_
    refine (zLet_eq m14).trans ?_
    refine (zLet_eq (show fn62 [61, ρ 9, ρ 15] (γ 1) = (0, ρ 16, γ 2) from l0.symm)).trans ?_
    refine (zLet_eq (show _ = γ 2 from rfl)).trans ?_
    refine (zLet_eq (show _ = ρ 16 from rfl)).trans ?_
    refine (if_pos w_3).trans ?_
    refine (zLet_eq c3.symm).trans ?_
    refine (if_pos w_4).trans ?_
    refine (zLet_eq c4.symm).trans ?_
    refine (zLet_eq (show fn63 [ρ 9 + 488, ρ 16] (γ 4) = (0, 0, γ 5) from l1.symm)).trans ?_
    refine (zLet_eq (show _ = γ 5 from rfl)).trans ?_
    rfl
  exact zGoo_ato hJ hD
set_option maxRecDepth 100000 in
theorem vn74a1_2 {S : Nat → zSpc} (hS62 : ∀ x g o v gz, S 62 x g o v gz → sn62 x g o v gz) (hS63 : ∀ x g o v gz, S 63 x g o v gz → sn63 x g o v gz) (hS64 : ∀ x g o v gz, S 64 x g o v gz → sn64 x g o v gz) (hS65 : ∀ x g o v gz, S 65 x g o v gz → sn65 x g o v gz) (hS66 : ∀ x g o v gz, S 66 x g o v gz → sn66 x g o v gz) {a : List Int} {g : rHp} : ∀ (ρ : Nat → Int) (γ : Nat → rHp), jn74 a g 1 (zAg (zNA a74_ 1) ρ) (γ 1) → zO 9 S a g q74a1_2 ρ γ → zGl (fun i vs g1 => jn74 a g i vs g1) (sn74 a g) q74a1_2 ρ γ := by
  intro ρ γ hJ h
  obtain ⟨ha, hg, hr, hf, hm, hc, hl⟩ := h
  have ha : a = [ρ 0, ρ 1, ρ 2, ρ 3, ρ 4, ρ 5, ρ 6, ρ 7, ρ 8] := ha
  subst ha
  subst hg
  have hJ : jn74 [ρ 0, ρ 1, ρ 2, ρ 3, ρ 4, ρ 5, ρ 6, ρ 7, ρ 8] (γ 0) 1 [ρ 0, ρ 1, ρ 2, ρ 3, ρ 4, ρ 5, ρ 6, ρ 7, ρ 8, ρ 9, ρ 10, ρ 11, ρ 12] (γ 1) := hJ
  obtain ⟨-, -, -, -, -, -, -, -, -, r9, -, r11, -, r13, -, -, r16, -⟩ := hr
  have r9 : (0 : Int) ≤ ρ 9 ∧ ρ 9 ≤ 7 := r9
  have r11 : (50000 : Int) ≤ ρ 11 ∧ ρ 11 ≤ 50000 := r11
  have r13 : (0 : Int) ≤ ρ 13 ∧ ρ 13 ≤ 0 := r13
  have r16 : (0 : Int) ≤ ρ 16 ∧ ρ 16 ≤ 1999 := r16
  obtain ⟨w_0, w_1, w_2, w_3, w_4⟩ : (¬ (ρ 9 < 0)) ∧ (0 ≤ -ρ 13 + 4) ∧ (ρ 13 = 0) ∧ (ρ 16 ≥ 0) ∧ (¬ (ρ 11 + 1 ≤ 50000)) := ⟨by omega, by omega, by omega, by omega, by omega⟩
  obtain ⟨-, -, -, -, -, -, -, -, -, m9, -, -, m12, m13, m14, -⟩ := hm
  have m9 : γ 1 15 0 72 = ρ 11 := m9
  have m12 : γ 0 77 0 (ρ 9 + 488) = ρ 13 := m12
  have m13 : γ 1 104 0 (ρ 9) = ρ 14 := m13
  have m14 : γ 0 96 0 (ρ 14) = ρ 15 := m14
  obtain ⟨⟨⟨⟨-, c3⟩, c4⟩, c5⟩, -⟩ := hc
  have c3 : γ 3 = rUp (γ 2) 15 0 72 (ρ 11 + 1) := c3
  have c4 : γ 4 = rUp (γ 3) 15 0 77 2 := c4
  have c5 : γ 5 = rUp (γ 4) 104 0 (ρ 9) (ρ 16) := c5
  obtain ⟨l0, l1, -⟩ := hl
  have l0 : sn62 [61, ρ 9, ρ 15, ρ 6, ρ 5, ρ 7, ρ 8] (γ 1) 0 (ρ 16) (γ 2) := hS62 _ _ _ _ _ l0
  have l1 : sn63 [ρ 9 + 488, ρ 16] (γ 5) 0 0 (γ 6) := hS63 _ _ _ _ _ l1
  show jn74 [ρ 0, ρ 1, ρ 2, ρ 3, ρ 4, ρ 5, ρ 6, ρ 7, ρ 8] (γ 0) 0 [ρ 0, ρ 1, ρ 2, ρ 3, ρ 4, ρ 5, ρ 6, ρ 7, ρ 8, ρ 9 + 1, ρ 11 + 1, 2, ρ 12] (γ 6)
  have hD : en74 (γ 0) (1, [ρ 9, ρ 10], γ 1) = .inl (0, [ρ 9 + 1], γ 6) := by
    unfold en74
    refine (if_neg (show ¬ (1 : Nat) = 0 by decide)).trans ?_
    refine (if_pos (show (1 : Nat) = 1 by decide)).trans ?_
    refine (zLet_eq (show _ = γ 1 from rfl)).trans ?_
    refine (zLet_eq (show _ = ρ 9 from rfl)).trans ?_
    refine (zLet_eq m9).trans ?_
    refine (if_neg w_0).trans ?_
    refine (zLet_eq m12).trans ?_
    refine (if_pos w_1).trans ?_
    refine (if_pos w_2).trans ?_
    refine (zLet_eq m13).trans ?_
    refine (zLet_eq m14).trans ?_
    refine (zLet_eq (show fn62 [61, ρ 9, ρ 15] (γ 1) = (0, ρ 16, γ 2) from l0.symm)).trans ?_
    refine (zLet_eq (show _ = γ 2 from rfl)).trans ?_
    refine (zLet_eq (show _ = ρ 16 from rfl)).trans ?_
    refine (if_pos w_3).trans ?_
    refine (zLet_eq c3.symm).trans ?_
    refine (if_neg w_4).trans ?_
    refine (zLet_eq c4.symm).trans ?_
    refine (zLet_eq c5.symm).trans ?_
    refine (zLet_eq (show fn63 [ρ 9 + 488, ρ 16] (γ 5) = (0, 0, γ 6) from l1.symm)).trans ?_
    refine (zLet_eq (show _ = γ 6 from rfl)).trans ?_
    rfl
  exact zGoo_ato hJ hD
set_option maxRecDepth 100000 in
theorem vn74a1_3 {S : Nat → zSpc} (hS62 : ∀ x g o v gz, S 62 x g o v gz → sn62 x g o v gz) (hS63 : ∀ x g o v gz, S 63 x g o v gz → sn63 x g o v gz) (hS64 : ∀ x g o v gz, S 64 x g o v gz → sn64 x g o v gz) (hS65 : ∀ x g o v gz, S 65 x g o v gz → sn65 x g o v gz) (hS66 : ∀ x g o v gz, S 66 x g o v gz → sn66 x g o v gz) {a : List Int} {g : rHp} : ∀ (ρ : Nat → Int) (γ : Nat → rHp), jn74 a g 1 (zAg (zNA a74_ 1) ρ) (γ 1) → zO 9 S a g q74a1_3 ρ γ → zGl (fun i vs g1 => jn74 a g i vs g1) (sn74 a g) q74a1_3 ρ γ := by
  intro ρ γ hJ h
  obtain ⟨ha, hg, hr, hf, hm, hc, hl⟩ := h
  have ha : a = [ρ 0, ρ 1, ρ 2, ρ 3, ρ 4, ρ 5, ρ 6, ρ 7, ρ 8] := ha
  subst ha
  subst hg
  have hJ : jn74 [ρ 0, ρ 1, ρ 2, ρ 3, ρ 4, ρ 5, ρ 6, ρ 7, ρ 8] (γ 0) 1 [ρ 0, ρ 1, ρ 2, ρ 3, ρ 4, ρ 5, ρ 6, ρ 7, ρ 8, ρ 9, ρ 10, ρ 11, ρ 12] (γ 1) := hJ
  obtain ⟨-, -, -, -, -, -, -, -, -, r9, -, -, -, r13, -, -, r16, -⟩ := hr
  have r9 : (0 : Int) ≤ ρ 9 ∧ ρ 9 ≤ 7 := r9
  have r13 : (0 : Int) ≤ ρ 13 ∧ ρ 13 ≤ 0 := r13
  have r16 : ((-1) : Int) ≤ ρ 16 ∧ ρ 16 ≤ (-1) := r16
  obtain ⟨w_0, w_1, w_2, w_3⟩ : (¬ (ρ 9 < 0)) ∧ (0 ≤ -ρ 13 + 4) ∧ (ρ 13 = 0) ∧ (¬ (ρ 16 ≥ 0)) := ⟨by omega, by omega, by omega, by omega⟩
  obtain ⟨-, -, -, -, -, -, -, -, -, m9, -, -, m12, m13, m14, -⟩ := hm
  have m9 : γ 1 15 0 72 = ρ 11 := m9
  have m12 : γ 0 77 0 (ρ 9 + 488) = ρ 13 := m12
  have m13 : γ 1 104 0 (ρ 9) = ρ 14 := m13
  have m14 : γ 0 96 0 (ρ 14) = ρ 15 := m14
  obtain ⟨l0, -⟩ := hl
  have l0 : sn62 [61, ρ 9, ρ 15, ρ 6, ρ 5, ρ 7, ρ 8] (γ 1) 0 (ρ 16) (γ 2) := hS62 _ _ _ _ _ l0
  show jn74 [ρ 0, ρ 1, ρ 2, ρ 3, ρ 4, ρ 5, ρ 6, ρ 7, ρ 8] (γ 0) 1 [ρ 0, ρ 1, ρ 2, ρ 3, ρ 4, ρ 5, ρ 6, ρ 7, ρ 8, ρ 9 + (-1), ρ 9 + 488, ρ 11, ρ 12] (γ 2)
  have hD : en74 (γ 0) (1, [ρ 9, ρ 10], γ 1) = .inl (1, [ρ 9 + (-1), ρ 9 + 488], γ 2) := by
    unfold en74
    refine (if_neg (show ¬ (1 : Nat) = 0 by decide)).trans ?_
    refine (if_pos (show (1 : Nat) = 1 by decide)).trans ?_
    refine (zLet_eq (show _ = γ 1 from rfl)).trans ?_
    refine (zLet_eq (show _ = ρ 9 from rfl)).trans ?_
    refine (zLet_eq m9).trans ?_
    refine (if_neg w_0).trans ?_
    refine (zLet_eq m12).trans ?_
    refine (if_pos w_1).trans ?_
    refine (if_pos w_2).trans ?_
    refine (zLet_eq m13).trans ?_
    refine (zLet_eq m14).trans ?_
    refine (zLet_eq (show fn62 [61, ρ 9, ρ 15] (γ 1) = (0, ρ 16, γ 2) from l0.symm)).trans ?_
    refine (zLet_eq (show _ = γ 2 from rfl)).trans ?_
    refine (zLet_eq (show _ = ρ 16 from rfl)).trans ?_
    refine (if_neg w_3).trans ?_
    rfl
  exact zGoo_ato hJ hD
set_option maxRecDepth 100000 in
theorem vn74a1_4 {S : Nat → zSpc} (hS62 : ∀ x g o v gz, S 62 x g o v gz → sn62 x g o v gz) (hS63 : ∀ x g o v gz, S 63 x g o v gz → sn63 x g o v gz) (hS64 : ∀ x g o v gz, S 64 x g o v gz → sn64 x g o v gz) (hS65 : ∀ x g o v gz, S 65 x g o v gz → sn65 x g o v gz) (hS66 : ∀ x g o v gz, S 66 x g o v gz → sn66 x g o v gz) {a : List Int} {g : rHp} : ∀ (ρ : Nat → Int) (γ : Nat → rHp), jn74 a g 1 (zAg (zNA a74_ 1) ρ) (γ 1) → zO 9 S a g q74a1_4 ρ γ → zGl (fun i vs g1 => jn74 a g i vs g1) (sn74 a g) q74a1_4 ρ γ := by
  intro ρ γ hJ h
  obtain ⟨ha, hg, hr, hf, hm, hc, hl⟩ := h
  have ha : a = [ρ 0, ρ 1, ρ 2, ρ 3, ρ 4, ρ 5, ρ 6, ρ 7, ρ 8] := ha
  subst ha
  subst hg
  have hJ : jn74 [ρ 0, ρ 1, ρ 2, ρ 3, ρ 4, ρ 5, ρ 6, ρ 7, ρ 8] (γ 0) 1 [ρ 0, ρ 1, ρ 2, ρ 3, ρ 4, ρ 5, ρ 6, ρ 7, ρ 8, ρ 9, ρ 10, ρ 11, ρ 12] (γ 1) := hJ
  obtain ⟨-, -, -, -, -, -, -, -, -, r9, -, -, -, r13, -⟩ := hr
  have r9 : (0 : Int) ≤ ρ 9 ∧ ρ 9 ≤ 7 := r9
  have r13 : (1 : Int) ≤ ρ 13 ∧ ρ 13 ≤ 4 := r13
  obtain ⟨w_0, w_1, w_2⟩ : (¬ (ρ 9 < 0)) ∧ (0 ≤ -ρ 13 + 4) ∧ (¬ (ρ 13 = 0)) := ⟨by omega, by omega, by omega⟩
  obtain ⟨-, -, -, -, -, -, -, -, -, m9, -, -, m12, -⟩ := hm
  have m9 : γ 1 15 0 72 = ρ 11 := m9
  have m12 : γ 0 77 0 (ρ 9 + 488) = ρ 13 := m12
  show jn74 [ρ 0, ρ 1, ρ 2, ρ 3, ρ 4, ρ 5, ρ 6, ρ 7, ρ 8] (γ 0) 1 [ρ 0, ρ 1, ρ 2, ρ 3, ρ 4, ρ 5, ρ 6, ρ 7, ρ 8, ρ 9 + (-1), ρ 9 + 488, ρ 11, ρ 12] (γ 1)
  have hD : en74 (γ 0) (1, [ρ 9, ρ 10], γ 1) = .inl (1, [ρ 9 + (-1), ρ 9 + 488], γ 1) := by
    unfold en74
    refine (if_neg (show ¬ (1 : Nat) = 0 by decide)).trans ?_
    refine (if_pos (show (1 : Nat) = 1 by decide)).trans ?_
    refine (zLet_eq (show _ = γ 1 from rfl)).trans ?_
    refine (zLet_eq (show _ = ρ 9 from rfl)).trans ?_
    refine (zLet_eq m9).trans ?_
    refine (if_neg w_0).trans ?_
    refine (zLet_eq m12).trans ?_
    refine (if_pos w_1).trans ?_
    refine (if_neg w_2).trans ?_
    rfl
  exact zGoo_ato hJ hD
set_option maxRecDepth 100000 in
theorem vn74a1_5 {S : Nat → zSpc} (hS62 : ∀ x g o v gz, S 62 x g o v gz → sn62 x g o v gz) (hS63 : ∀ x g o v gz, S 63 x g o v gz → sn63 x g o v gz) (hS64 : ∀ x g o v gz, S 64 x g o v gz → sn64 x g o v gz) (hS65 : ∀ x g o v gz, S 65 x g o v gz → sn65 x g o v gz) (hS66 : ∀ x g o v gz, S 66 x g o v gz → sn66 x g o v gz) {a : List Int} {g : rHp} : ∀ (ρ : Nat → Int) (γ : Nat → rHp), jn74 a g 1 (zAg (zNA a74_ 1) ρ) (γ 1) → zO 9 S a g q74a1_5 ρ γ → zGl (fun i vs g1 => jn74 a g i vs g1) (sn74 a g) q74a1_5 ρ γ := by
  intro ρ γ hJ h
  obtain ⟨ha, hg, hr, hf, hm, hc, hl⟩ := h
  have ha : a = [ρ 0, ρ 1, ρ 2, ρ 3, ρ 4, ρ 5, ρ 6, ρ 7, ρ 8] := ha
  subst ha
  subst hg
  have hJ : jn74 [ρ 0, ρ 1, ρ 2, ρ 3, ρ 4, ρ 5, ρ 6, ρ 7, ρ 8] (γ 0) 1 [ρ 0, ρ 1, ρ 2, ρ 3, ρ 4, ρ 5, ρ 6, ρ 7, ρ 8, ρ 9, ρ 10, ρ 11, ρ 12] (γ 1) := hJ
  obtain ⟨-, -, -, -, -, -, -, -, -, r9, -, -, -, r13, -⟩ := hr
  have r9 : (0 : Int) ≤ ρ 9 ∧ ρ 9 ≤ 7 := r9
  have r13 : (5 : Int) ≤ ρ 13 ∧ ρ 13 ≤ 7 := r13
  obtain ⟨w_0, w_1⟩ : (¬ (ρ 9 < 0)) ∧ (¬ (0 ≤ -ρ 13 + 4)) := ⟨by omega, by omega⟩
  obtain ⟨-, -, -, -, -, -, -, -, -, m9, -, -, m12, -⟩ := hm
  have m9 : γ 1 15 0 72 = ρ 11 := m9
  have m12 : γ 0 77 0 (ρ 9 + 488) = ρ 13 := m12
  show jn74 [ρ 0, ρ 1, ρ 2, ρ 3, ρ 4, ρ 5, ρ 6, ρ 7, ρ 8] (γ 0) 1 [ρ 0, ρ 1, ρ 2, ρ 3, ρ 4, ρ 5, ρ 6, ρ 7, ρ 8, ρ 9 + (-1), ρ 9 + 488, ρ 11, ρ 12] (γ 1)
  have hD : en74 (γ 0) (1, [ρ 9, ρ 10], γ 1) = .inl (1, [ρ 9 + (-1), ρ 9 + 488], γ 1) := by
    unfold en74
    refine (if_neg (show ¬ (1 : Nat) = 0 by decide)).trans ?_
    refine (if_pos (show (1 : Nat) = 1 by decide)).trans ?_
    refine (zLet_eq (show _ = γ 1 from rfl)).trans ?_
    refine (zLet_eq (show _ = ρ 9 from rfl)).trans ?_
    refine (zLet_eq m9).trans ?_
    refine (if_neg w_0).trans ?_
    refine (zLet_eq m12).trans ?_
    refine (if_neg w_1).trans ?_
    rfl
  exact zGoo_ato hJ hD
set_option maxRecDepth 100000 in
theorem yn74 {S : Nat → zSpc} (hS62 : ∀ x g o v gz, S 62 x g o v gz → sn62 x g o v gz) (hS63 : ∀ x g o v gz, S 63 x g o v gz → sn63 x g o v gz) (hS64 : ∀ x g o v gz, S 64 x g o v gz → sn64 x g o v gz) (hS65 : ∀ x g o v gz, S 65 x g o v gz → sn65 x g o v gz) (hS66 : ∀ x g o v gz, S 66 x g o v gz → sn66 x g o v gz) : ∀ x g o v gz, zSem uW uT w74_.2.2.2.1 w74_.2.2.1.1.length S q74 (fun i => q74a.getD i []) (zNA a74_) x g o v gz → sn74 x g o v gz := by
  intro a g o v gz h
  exact zSem_all (l0 := q74) (las := q74a) (S := S) (J := (fun i vs g1 => jn74 a g i vs g1)) (P := sn74 a g) (fun _ => (show zAll _ [q74_0] from (zAll_c (vn74_0 hS62 hS63 hS64 hS65 hS66) zAll_n))) (fun _ => (show zAllI _ 0 [q74a0, q74a1] from ⟨(show zAll _ [q74a0_0, q74a0_1, q74a0_2, q74a0_3, q74a0_4, q74a0_5, q74a0_6, q74a0_7, q74a0_8] from (zAll_c (vn74a0_0 hS62 hS63 hS64 hS65 hS66) (zAll_c (vn74a0_1 hS62 hS63 hS64 hS65 hS66) (zAll_c (vn74a0_2 hS62 hS63 hS64 hS65 hS66) (zAll_c (vn74a0_3 hS62 hS63 hS64 hS65 hS66) (zAll_c (vn74a0_4 hS62 hS63 hS64 hS65 hS66) (zAll_c (vn74a0_5 hS62 hS63 hS64 hS65 hS66) (zAll_c (vn74a0_6 hS62 hS63 hS64 hS65 hS66) (zAll_c (vn74a0_7 hS62 hS63 hS64 hS65 hS66) (zAll_c (vn74a0_8 hS62 hS63 hS64 hS65 hS66) zAll_n)))))))))), ⟨(show zAll _ [q74a1_0, q74a1_1, q74a1_2, q74a1_3, q74a1_4, q74a1_5] from (zAll_c (vn74a1_0 hS62 hS63 hS64 hS65 hS66) (zAll_c (vn74a1_1 hS62 hS63 hS64 hS65 hS66) (zAll_c (vn74a1_2 hS62 hS63 hS64 hS65 hS66) (zAll_c (vn74a1_3 hS62 hS63 hS64 hS65 hS66) (zAll_c (vn74a1_4 hS62 hS63 hS64 hS65 hS66) (zAll_c (vn74a1_5 hS62 hS63 hS64 hS65 hS66) zAll_n))))))), trivial⟩⟩)) h
set_option maxRecDepth 100000 in
theorem vn79_0 {S : Nat → zSpc}  {a : List Int} {g : rHp} : ∀ (ρ : Nat → Int) (γ : Nat → rHp), zO 2 S a g q79_0 ρ γ → zGl (fun _ _ _ => True) (sn79 a g) q79_0 ρ γ := by
  intro ρ γ h
  obtain ⟨ha, hg, hr, hf, hm, hc, hl⟩ := h
  have ha : a = [ρ 0, ρ 1] := ha
  subst ha
  subst hg
  obtain ⟨r0, -⟩ := hr
  have r0 : ((-2147483648) : Int) ≤ ρ 0 ∧ ρ 0 ≤ (-1) := r0
  have w_0 : ρ 0 < 0 := by omega
  obtain ⟨m0, -⟩ := hm
  have m0 : γ 0 15 0 71 = ρ 1 := m0
  show sn79 [ρ 0, ρ 1] (γ 0) 0 0 (γ 0)
  refine Eq.symm ?_
  show fn79 [ρ 0] (γ 0) = _
  unfold fn79
  refine (zLet_eq (show _ = ρ 0 from rfl)).trans ?_
  refine (zLet_eq m0).trans ?_
  refine (if_pos w_0).trans ?_
  rfl
set_option maxRecDepth 100000 in
theorem vn79_1 {S : Nat → zSpc}  {a : List Int} {g : rHp} : ∀ (ρ : Nat → Int) (γ : Nat → rHp), zO 2 S a g q79_1 ρ γ → zGl (fun _ _ _ => True) (sn79 a g) q79_1 ρ γ := by
  intro ρ γ h
  obtain ⟨ha, hg, hr, hf, hm, hc, hl⟩ := h
  have ha : a = [ρ 0, ρ 1] := ha
  subst ha
  subst hg
  obtain ⟨r0, -⟩ := hr
  have r0 : (0 : Int) ≤ ρ 0 ∧ ρ 0 ≤ 2147483647 := r0
  obtain ⟨f0, -⟩ := hf
  have f0 : (0 : Int) ≤ -ρ 1 + ρ 0 := f0
  obtain ⟨w_0, w_1⟩ : (¬ (ρ 0 < 0)) ∧ (ρ 0 ≥ ρ 1) := ⟨by omega, by omega⟩
  obtain ⟨m0, -⟩ := hm
  have m0 : γ 0 15 0 71 = ρ 1 := m0
  show sn79 [ρ 0, ρ 1] (γ 0) 0 0 (γ 0)
  refine Eq.symm ?_
  show fn79 [ρ 0] (γ 0) = _
  unfold fn79
  refine (zLet_eq (show _ = ρ 0 from rfl)).trans ?_
  refine (zLet_eq m0).trans ?_
  refine (if_neg w_0).trans ?_
  refine (if_pos w_1).trans ?_
  rfl
set_option maxRecDepth 100000 in
theorem vn79_2 {S : Nat → zSpc}  {a : List Int} {g : rHp} : ∀ (ρ : Nat → Int) (γ : Nat → rHp), zO 2 S a g q79_2 ρ γ → zGl (fun _ _ _ => True) (sn79 a g) q79_2 ρ γ := by
  intro ρ γ h
  obtain ⟨ha, hg, hr, hf, hm, hc, hl⟩ := h
  have ha : a = [ρ 0, ρ 1] := ha
  subst ha
  subst hg
  obtain ⟨r0, -⟩ := hr
  have r0 : (0 : Int) ≤ ρ 0 ∧ ρ 0 ≤ 2147483647 := r0
  obtain ⟨f0, -⟩ := hf
  have f0 : (0 : Int) ≤ ρ 1 + -ρ 0 + (-1) := f0
  obtain ⟨w_0, w_1⟩ : (¬ (ρ 0 < 0)) ∧ (¬ (ρ 0 ≥ ρ 1)) := ⟨by omega, by omega⟩
  obtain ⟨m0, -⟩ := hm
  have m0 : γ 0 15 0 71 = ρ 1 := m0
  show sn79 [ρ 0, ρ 1] (γ 0) 0 1 (γ 0)
  refine Eq.symm ?_
  show fn79 [ρ 0] (γ 0) = _
  unfold fn79
  refine (zLet_eq (show _ = ρ 0 from rfl)).trans ?_
  refine (zLet_eq m0).trans ?_
  refine (if_neg w_0).trans ?_
  refine (if_neg w_1).trans ?_
  rfl
set_option maxRecDepth 100000 in
theorem yn79 {S : Nat → zSpc}  : ∀ x g o v gz, zSem uW uT w79_.2.2.2.1 w79_.2.2.1.1.length S q79 (fun i => q79a.getD i []) (zNA a79_) x g o v gz → sn79 x g o v gz := by
  intro a g o v gz h
  exact zSem_all (l0 := q79) (las := q79a) (S := S) (J := (fun _ _ _ => True)) (P := sn79 a g) (fun _ => (show zAll _ [q79_0, q79_1, q79_2] from (zAll_c (vn79_0 ) (zAll_c (vn79_1 ) (zAll_c (vn79_2 ) zAll_n))))) (fun _ => (show zAllI _ 0 [] from trivial)) h
set_option maxRecDepth 100000 in
theorem vn80_0 {S : Nat → zSpc} (hS55 : ∀ x g o v gz, S 55 x g o v gz → sn55 x g o v gz) {a : List Int} {g : rHp} : ∀ (ρ : Nat → Int) (γ : Nat → rHp), zO 1 S a g q80_0 ρ γ → zGl (fun _ _ _ => True) (sn80 a g) q80_0 ρ γ := by
  intro ρ γ h
  obtain ⟨ha, hg, hr, hf, hm, hc, hl⟩ := h
  have ha : a = [ρ 0] := ha
  subst ha
  subst hg
  obtain ⟨l0, l1, l2, l3, -⟩ := hl
  have l0 : sn55 [ρ 0] (γ 0) 0 0 (γ 1) := hS55 _ _ _ _ _ l0
  have l1 : zOpP (.ladd) (γ 0) (γ 1) [200000000, ρ 0] (ρ 1) := l1
  have l2 : zOpP (.lsub) (γ 0) (γ 1) [ρ 1, 1099511627776] (ρ 2) := l2
  have l3 : zOpP (.l2i) (γ 0) (γ 1) [ρ 2] (ρ 3) := l3
  show sn80 [ρ 0] (γ 0) 0 (ρ 3) (γ 1)
  refine Eq.symm ?_
  show fn80 [ρ 0] (γ 0) = _
  unfold fn80
  refine (zLet_eq (show _ = ρ 0 from rfl)).trans ?_
  refine (zLet_eq (show fn55 [ρ 0] (γ 0) = (0, 0, γ 1) from l0.symm)).trans ?_
  refine (zLet_eq (show _ = γ 1 from rfl)).trans ?_
  refine (if_neg zQ0_).trans ?_
  refine (zLet_eq (zF2_ok l1)).trans ?_
  refine (zLet_eq (zF2_ok l2)).trans ?_
  refine (zLet_eq (zF1_ok l3)).trans ?_
  rfl
set_option maxRecDepth 100000 in
theorem vn80_1 {S : Nat → zSpc} (hS55 : ∀ x g o v gz, S 55 x g o v gz → sn55 x g o v gz) {a : List Int} {g : rHp} : ∀ (ρ : Nat → Int) (γ : Nat → rHp), zO 1 S a g q80_1 ρ γ → zGl (fun _ _ _ => True) (sn80 a g) q80_1 ρ γ := by
  intro ρ γ h
  obtain ⟨ha, hg, hr, hf, hm, hc, hl⟩ := h
  have ha : a = [ρ 0] := ha
  subst ha
  subst hg
  obtain ⟨l0, l1, -⟩ := hl
  have l0 : sn55 [ρ 0] (γ 0) 0 1 (γ 1) := hS55 _ _ _ _ _ l0
  have l1 : zOpP (.l2i) (γ 0) (γ 1) [ρ 0] (ρ 1) := l1
  show sn80 [ρ 0] (γ 0) 0 (ρ 1) (γ 1)
  refine Eq.symm ?_
  show fn80 [ρ 0] (γ 0) = _
  unfold fn80
  refine (zLet_eq (show _ = ρ 0 from rfl)).trans ?_
  refine (zLet_eq (show fn55 [ρ 0] (γ 0) = (0, 1, γ 1) from l0.symm)).trans ?_
  refine (zLet_eq (show _ = γ 1 from rfl)).trans ?_
  refine (if_pos zQ1_).trans ?_
  refine (zLet_eq (zF1_ok l1)).trans ?_
  rfl
set_option maxRecDepth 100000 in
theorem yn80 {S : Nat → zSpc} (hS55 : ∀ x g o v gz, S 55 x g o v gz → sn55 x g o v gz) : ∀ x g o v gz, zSem uW uT w80_.2.2.2.1 w80_.2.2.1.1.length S q80 (fun i => q80a.getD i []) (zNA a80_) x g o v gz → sn80 x g o v gz := by
  intro a g o v gz h
  exact zSem_all (l0 := q80) (las := q80a) (S := S) (J := (fun _ _ _ => True)) (P := sn80 a g) (fun _ => (show zAll _ [q80_0, q80_1] from (zAll_c (vn80_0 hS55) (zAll_c (vn80_1 hS55) zAll_n)))) (fun _ => (show zAllI _ 0 [] from trivial)) h
set_option maxRecDepth 100000 in
theorem vn81_0 {S : Nat → zSpc} (hS1 : ∀ x g o v gz, S 1 x g o v gz → sn1 x g o v gz) (hS79 : ∀ x g o v gz, S 79 x g o v gz → sn79 x g o v gz) (hS80 : ∀ x g o v gz, S 80 x g o v gz → sn80 x g o v gz) {a : List Int} {g : rHp} : ∀ (ρ : Nat → Int) (γ : Nat → rHp), zO 4 S a g q81_0 ρ γ → zGl (fun _ _ _ => True) (sn81 a g) q81_0 ρ γ := by
  intro ρ γ h
  obtain ⟨ha, hg, hr, hf, hm, hc, hl⟩ := h
  have ha : a = [ρ 0, ρ 1, ρ 2, ρ 3] := ha
  subst ha
  subst hg
  obtain ⟨-, r1, -⟩ := hr
  have r1 : ((-2147483648) : Int) ≤ ρ 1 ∧ ρ 1 ≤ (-1) := r1
  have w_0 : ρ 1 < 0 := by omega
  obtain ⟨l0, -⟩ := hl
  have l0 : sn1 [1, ρ 2] (γ 0) 0 1 (γ 1) := hS1 _ _ _ _ _ l0
  show sn81 [ρ 0, ρ 1, ρ 2, ρ 3] (γ 0) 0 0 (γ 1)
  refine Eq.symm ?_
  show fn81 [ρ 0, ρ 1] (γ 0) = _
  unfold fn81
  refine (zLet_eq (show _ = ρ 0 from rfl)).trans ?_
  refine (zLet_eq (show _ = ρ 1 from rfl)).trans ?_
  refine (if_pos w_0).trans ?_
  refine (zLet_eq (show fn1 [1] (γ 0) = (0, 1, γ 1) from l0.symm)).trans ?_
  refine (zLet_eq (show _ = γ 1 from rfl)).trans ?_
  rfl
set_option maxRecDepth 100000 in
theorem vn81_1 {S : Nat → zSpc} (hS1 : ∀ x g o v gz, S 1 x g o v gz → sn1 x g o v gz) (hS79 : ∀ x g o v gz, S 79 x g o v gz → sn79 x g o v gz) (hS80 : ∀ x g o v gz, S 80 x g o v gz → sn80 x g o v gz) {a : List Int} {g : rHp} : ∀ (ρ : Nat → Int) (γ : Nat → rHp), zO 4 S a g q81_1 ρ γ → zGl (fun _ _ _ => True) (sn81 a g) q81_1 ρ γ := by
  intro ρ γ h
  obtain ⟨ha, hg, hr, hf, hm, hc, hl⟩ := h
  have ha : a = [ρ 0, ρ 1, ρ 2, ρ 3] := ha
  subst ha
  subst hg
  obtain ⟨-, r1, -, -, r4, -⟩ := hr
  have r1 : (0 : Int) ≤ ρ 1 ∧ ρ 1 ≤ 8 := r1
  have r4 : (1 : Int) ≤ ρ 4 ∧ ρ 4 ≤ 1 := r4
  obtain ⟨w_0, w_1, w_2⟩ : (¬ (ρ 1 < 0)) ∧ (ρ 1 ≤ 8) ∧ (ρ 4 ≠ 0) := ⟨by omega, by omega, by omega⟩
  obtain ⟨-, -, m2, -⟩ := hm
  have m2 : γ 0 15 0 59 = ρ 4 := m2
  obtain ⟨l0, l1, -⟩ := hl
  have l0 : sn79 [ρ 0, ρ 3] (γ 0) 0 0 (γ 1) := hS79 _ _ _ _ _ l0
  have l1 : sn1 [3, ρ 2] (γ 1) 0 1 (γ 2) := hS1 _ _ _ _ _ l1
  show sn81 [ρ 0, ρ 1, ρ 2, ρ 3] (γ 0) 0 0 (γ 2)
  refine Eq.symm ?_
  show fn81 [ρ 0, ρ 1] (γ 0) = _
  unfold fn81
  refine (zLet_eq (show _ = ρ 0 from rfl)).trans ?_
  refine (zLet_eq (show _ = ρ 1 from rfl)).trans ?_
  refine (if_neg w_0).trans ?_
  refine (if_pos w_1).trans ?_
  refine (zLet_eq m2).trans ?_
  refine (if_pos w_2).trans ?_
  refine (zLet_eq (show fn79 [ρ 0] (γ 0) = (0, 0, γ 1) from l0.symm)).trans ?_
  refine (zLet_eq (show _ = γ 1 from rfl)).trans ?_
  refine (if_neg zQ0_).trans ?_
  refine (zLet_eq (show fn1 [3] (γ 1) = (0, 1, γ 2) from l1.symm)).trans ?_
  refine (zLet_eq (show _ = γ 2 from rfl)).trans ?_
  rfl
set_option maxRecDepth 100000 in
theorem vn81_2 {S : Nat → zSpc} (hS1 : ∀ x g o v gz, S 1 x g o v gz → sn1 x g o v gz) (hS79 : ∀ x g o v gz, S 79 x g o v gz → sn79 x g o v gz) (hS80 : ∀ x g o v gz, S 80 x g o v gz → sn80 x g o v gz) {a : List Int} {g : rHp} : ∀ (ρ : Nat → Int) (γ : Nat → rHp), zO 4 S a g q81_2 ρ γ → zGl (fun _ _ _ => True) (sn81 a g) q81_2 ρ γ := by
  intro ρ γ h
  obtain ⟨ha, hg, hr, hf, hm, hc, hl⟩ := h
  have ha : a = [ρ 0, ρ 1, ρ 2, ρ 3] := ha
  subst ha
  subst hg
  obtain ⟨-, r1, -, -, r4, -⟩ := hr
  have r1 : (0 : Int) ≤ ρ 1 ∧ ρ 1 ≤ 3 := r1
  have r4 : (1 : Int) ≤ ρ 4 ∧ ρ 4 ≤ 1 := r4
  obtain ⟨f0, -⟩ := hf
  have f0 : (0 : Int) ≤ -ρ 6 + ρ 1 := f0
  obtain ⟨w_0, w_1, w_2, w_3, w_4⟩ : (¬ (ρ 1 < 0)) ∧ (ρ 1 ≤ 8) ∧ (ρ 4 ≠ 0) ∧ (0 ≤ -ρ 1 + 3) ∧ (ρ 1 ≥ ρ 6) := ⟨by omega, by omega, by omega, by omega, by omega⟩
  obtain ⟨-, -, m2, -, m4, m5, -⟩ := hm
  have m2 : γ 0 15 0 59 = ρ 4 := m2
  have m4 : γ 0 93 0 (ρ 0) = ρ 5 := m4
  have m5 : γ 0 66 0 (ρ 5) = ρ 6 := m5
  obtain ⟨l0, l1, -⟩ := hl
  have l0 : sn79 [ρ 0, ρ 3] (γ 0) 0 1 (γ 1) := hS79 _ _ _ _ _ l0
  have l1 : sn1 [0, ρ 2] (γ 1) 0 0 (γ 2) := hS1 _ _ _ _ _ l1
  show sn81 [ρ 0, ρ 1, ρ 2, ρ 3] (γ 0) 0 300000000 (γ 2)
  refine Eq.symm ?_
  show fn81 [ρ 0, ρ 1] (γ 0) = _
  unfold fn81
  refine (zLet_eq (show _ = ρ 0 from rfl)).trans ?_
  refine (zLet_eq (show _ = ρ 1 from rfl)).trans ?_
  refine (if_neg w_0).trans ?_
  refine (if_pos w_1).trans ?_
  refine (zLet_eq m2).trans ?_
  refine (if_pos w_2).trans ?_
  refine (zLet_eq (show fn79 [ρ 0] (γ 0) = (0, 1, γ 1) from l0.symm)).trans ?_
  refine (zLet_eq (show _ = γ 1 from rfl)).trans ?_
  refine (if_pos zQ1_).trans ?_
  refine (zLet_eq (show fn1 [0] (γ 1) = (0, 0, γ 2) from l1.symm)).trans ?_
  refine (zLet_eq (show _ = γ 2 from rfl)).trans ?_
  refine (zLet_eq m4).trans ?_
  refine (if_pos w_3).trans ?_
  refine (zLet_eq m5).trans ?_
  refine (if_pos w_4).trans ?_
  rfl
set_option maxRecDepth 100000 in
theorem vn81_3 {S : Nat → zSpc} (hS1 : ∀ x g o v gz, S 1 x g o v gz → sn1 x g o v gz) (hS79 : ∀ x g o v gz, S 79 x g o v gz → sn79 x g o v gz) (hS80 : ∀ x g o v gz, S 80 x g o v gz → sn80 x g o v gz) {a : List Int} {g : rHp} : ∀ (ρ : Nat → Int) (γ : Nat → rHp), zO 4 S a g q81_3 ρ γ → zGl (fun _ _ _ => True) (sn81 a g) q81_3 ρ γ := by
  intro ρ γ h
  obtain ⟨ha, hg, hr, hf, hm, hc, hl⟩ := h
  have ha : a = [ρ 0, ρ 1, ρ 2, ρ 3] := ha
  subst ha
  subst hg
  obtain ⟨-, r1, -, -, r4, -⟩ := hr
  have r1 : (0 : Int) ≤ ρ 1 ∧ ρ 1 ≤ 3 := r1
  have r4 : (1 : Int) ≤ ρ 4 ∧ ρ 4 ≤ 1 := r4
  obtain ⟨f0, -⟩ := hf
  have f0 : (0 : Int) ≤ ρ 6 + -ρ 1 + (-1) := f0
  obtain ⟨w_0, w_1, w_2, w_3, w_4⟩ : (¬ (ρ 1 < 0)) ∧ (ρ 1 ≤ 8) ∧ (ρ 4 ≠ 0) ∧ (0 ≤ -ρ 1 + 3) ∧ (¬ (ρ 1 ≥ ρ 6)) := ⟨by omega, by omega, by omega, by omega, by omega⟩
  obtain ⟨-, -, m2, -, m4, m5, m6, -⟩ := hm
  have m2 : γ 0 15 0 59 = ρ 4 := m2
  have m4 : γ 0 93 0 (ρ 0) = ρ 5 := m4
  have m5 : γ 0 66 0 (ρ 5) = ρ 6 := m5
  have m6 : γ 0 99 0 (ρ 1 + 4 * ρ 0) = ρ 7 := m6
  obtain ⟨l0, l1, l2, -⟩ := hl
  have l0 : sn79 [ρ 0, ρ 3] (γ 0) 0 1 (γ 1) := hS79 _ _ _ _ _ l0
  have l1 : sn1 [0, ρ 2] (γ 1) 0 0 (γ 2) := hS1 _ _ _ _ _ l1
  have l2 : sn80 [ρ 7] (γ 2) 0 (ρ 8) (γ 3) := hS80 _ _ _ _ _ l2
  show sn81 [ρ 0, ρ 1, ρ 2, ρ 3] (γ 0) 0 (ρ 8) (γ 3)
  refine Eq.symm ?_
  show fn81 [ρ 0, ρ 1] (γ 0) = _
  unfold fn81
  refine (zLet_eq (show _ = ρ 0 from rfl)).trans ?_
  refine (zLet_eq (show _ = ρ 1 from rfl)).trans ?_
  refine (if_neg w_0).trans ?_
  refine (if_pos w_1).trans ?_
  refine (zLet_eq m2).trans ?_
  refine (if_pos w_2).trans ?_
  refine (zLet_eq (show fn79 [ρ 0] (γ 0) = (0, 1, γ 1) from l0.symm)).trans ?_
  refine (zLet_eq (show _ = γ 1 from rfl)).trans ?_
  refine (if_pos zQ1_).trans ?_
  refine (zLet_eq (show fn1 [0] (γ 1) = (0, 0, γ 2) from l1.symm)).trans ?_
  refine (zLet_eq (show _ = γ 2 from rfl)).trans ?_
  refine (zLet_eq m4).trans ?_
  refine (if_pos w_3).trans ?_
  refine (zLet_eq m5).trans ?_
  refine (if_neg w_4).trans ?_
  refine (zLet_eq m6).trans ?_
  refine (zLet_eq (show fn80 [ρ 7] (γ 2) = (0, ρ 8, γ 3) from l2.symm)).trans ?_
  refine (zLet_eq (show _ = γ 3 from rfl)).trans ?_
  refine (zLet_eq (show _ = ρ 8 from rfl)).trans ?_
  rfl
set_option maxRecDepth 100000 in
theorem vn81_4 {S : Nat → zSpc} (hS1 : ∀ x g o v gz, S 1 x g o v gz → sn1 x g o v gz) (hS79 : ∀ x g o v gz, S 79 x g o v gz → sn79 x g o v gz) (hS80 : ∀ x g o v gz, S 80 x g o v gz → sn80 x g o v gz) {a : List Int} {g : rHp} : ∀ (ρ : Nat → Int) (γ : Nat → rHp), zO 4 S a g q81_4 ρ γ → zGl (fun _ _ _ => True) (sn81 a g) q81_4 ρ γ := by
  intro ρ γ h
  obtain ⟨ha, hg, hr, hf, hm, hc, hl⟩ := h
  have ha : a = [ρ 0, ρ 1, ρ 2, ρ 3] := ha
  subst ha
  subst hg
  obtain ⟨-, r1, -, -, r4, -⟩ := hr
  have r1 : (4 : Int) ≤ ρ 1 ∧ ρ 1 ≤ 4 := r1
  have r4 : (1 : Int) ≤ ρ 4 ∧ ρ 4 ≤ 1 := r4
  obtain ⟨w_0, w_1, w_2, w_3, w_4⟩ : (¬ (ρ 1 < 0)) ∧ (ρ 1 ≤ 8) ∧ (ρ 4 ≠ 0) ∧ (¬ (0 ≤ -ρ 1 + 3)) ∧ (ρ 1 = 4) := ⟨by omega, by omega, by omega, by omega, by omega⟩
  obtain ⟨-, -, m2, -, m4, -⟩ := hm
  have m2 : γ 0 15 0 59 = ρ 4 := m2
  have m4 : γ 0 93 0 (ρ 0) = ρ 5 := m4
  obtain ⟨l0, l1, -⟩ := hl
  have l0 : sn79 [ρ 0, ρ 3] (γ 0) 0 1 (γ 1) := hS79 _ _ _ _ _ l0
  have l1 : sn1 [0, ρ 2] (γ 1) 0 0 (γ 2) := hS1 _ _ _ _ _ l1
  show sn81 [ρ 0, ρ 1, ρ 2, ρ 3] (γ 0) 0 (ρ 5) (γ 2)
  refine Eq.symm ?_
  show fn81 [ρ 0, ρ 1] (γ 0) = _
  unfold fn81
  refine (zLet_eq (show _ = ρ 0 from rfl)).trans ?_
  refine (zLet_eq (show _ = ρ 1 from rfl)).trans ?_
  refine (if_neg w_0).trans ?_
  refine (if_pos w_1).trans ?_
  refine (zLet_eq m2).trans ?_
  refine (if_pos w_2).trans ?_
  refine (zLet_eq (show fn79 [ρ 0] (γ 0) = (0, 1, γ 1) from l0.symm)).trans ?_
  refine (zLet_eq (show _ = γ 1 from rfl)).trans ?_
  refine (if_pos zQ1_).trans ?_
  refine (zLet_eq (show fn1 [0] (γ 1) = (0, 0, γ 2) from l1.symm)).trans ?_
  refine (zLet_eq (show _ = γ 2 from rfl)).trans ?_
  refine (zLet_eq m4).trans ?_
  refine (if_neg w_3).trans ?_
  refine (if_pos w_4).trans ?_
  rfl
set_option maxRecDepth 100000 in
theorem vn81_5 {S : Nat → zSpc} (hS1 : ∀ x g o v gz, S 1 x g o v gz → sn1 x g o v gz) (hS79 : ∀ x g o v gz, S 79 x g o v gz → sn79 x g o v gz) (hS80 : ∀ x g o v gz, S 80 x g o v gz → sn80 x g o v gz) {a : List Int} {g : rHp} : ∀ (ρ : Nat → Int) (γ : Nat → rHp), zO 4 S a g q81_5 ρ γ → zGl (fun _ _ _ => True) (sn81 a g) q81_5 ρ γ := by
  intro ρ γ h
  obtain ⟨ha, hg, hr, hf, hm, hc, hl⟩ := h
  have ha : a = [ρ 0, ρ 1, ρ 2, ρ 3] := ha
  subst ha
  subst hg
  obtain ⟨-, r1, -, -, r4, -⟩ := hr
  have r1 : (5 : Int) ≤ ρ 1 ∧ ρ 1 ≤ 5 := r1
  have r4 : (1 : Int) ≤ ρ 4 ∧ ρ 4 ≤ 1 := r4
  obtain ⟨w_0, w_1, w_2, w_3, w_4, w_5⟩ : (¬ (ρ 1 < 0)) ∧ (ρ 1 ≤ 8) ∧ (ρ 4 ≠ 0) ∧ (¬ (0 ≤ -ρ 1 + 3)) ∧ (¬ (ρ 1 = 4)) ∧ (ρ 1 = 5) := ⟨by omega, by omega, by omega, by omega, by omega, by omega⟩
  obtain ⟨-, -, m2, -, m4, m5, -⟩ := hm
  have m2 : γ 0 15 0 59 = ρ 4 := m2
  have m4 : γ 0 93 0 (ρ 0) = ρ 5 := m4
  have m5 : γ 0 92 0 (ρ 5) = ρ 6 := m5
  obtain ⟨l0, l1, -⟩ := hl
  have l0 : sn79 [ρ 0, ρ 3] (γ 0) 0 1 (γ 1) := hS79 _ _ _ _ _ l0
  have l1 : sn1 [0, ρ 2] (γ 1) 0 0 (γ 2) := hS1 _ _ _ _ _ l1
  show sn81 [ρ 0, ρ 1, ρ 2, ρ 3] (γ 0) 0 (ρ 6) (γ 2)
  refine Eq.symm ?_
  show fn81 [ρ 0, ρ 1] (γ 0) = _
  unfold fn81
  refine (zLet_eq (show _ = ρ 0 from rfl)).trans ?_
  refine (zLet_eq (show _ = ρ 1 from rfl)).trans ?_
  refine (if_neg w_0).trans ?_
  refine (if_pos w_1).trans ?_
  refine (zLet_eq m2).trans ?_
  refine (if_pos w_2).trans ?_
  refine (zLet_eq (show fn79 [ρ 0] (γ 0) = (0, 1, γ 1) from l0.symm)).trans ?_
  refine (zLet_eq (show _ = γ 1 from rfl)).trans ?_
  refine (if_pos zQ1_).trans ?_
  refine (zLet_eq (show fn1 [0] (γ 1) = (0, 0, γ 2) from l1.symm)).trans ?_
  refine (zLet_eq (show _ = γ 2 from rfl)).trans ?_
  refine (zLet_eq m4).trans ?_
  refine (if_neg w_3).trans ?_
  refine (if_neg w_4).trans ?_
  refine (if_pos w_5).trans ?_
  refine (zLet_eq m5).trans ?_
  rfl
set_option maxRecDepth 100000 in
theorem vn81_6 {S : Nat → zSpc} (hS1 : ∀ x g o v gz, S 1 x g o v gz → sn1 x g o v gz) (hS79 : ∀ x g o v gz, S 79 x g o v gz → sn79 x g o v gz) (hS80 : ∀ x g o v gz, S 80 x g o v gz → sn80 x g o v gz) {a : List Int} {g : rHp} : ∀ (ρ : Nat → Int) (γ : Nat → rHp), zO 4 S a g q81_6 ρ γ → zGl (fun _ _ _ => True) (sn81 a g) q81_6 ρ γ := by
  intro ρ γ h
  obtain ⟨ha, hg, hr, hf, hm, hc, hl⟩ := h
  have ha : a = [ρ 0, ρ 1, ρ 2, ρ 3] := ha
  subst ha
  subst hg
  obtain ⟨-, r1, -, -, r4, -⟩ := hr
  have r1 : (6 : Int) ≤ ρ 1 ∧ ρ 1 ≤ 6 := r1
  have r4 : (1 : Int) ≤ ρ 4 ∧ ρ 4 ≤ 1 := r4
  obtain ⟨w_0, w_1, w_2, w_3, w_4, w_5, w_6⟩ : (¬ (ρ 1 < 0)) ∧ (ρ 1 ≤ 8) ∧ (ρ 4 ≠ 0) ∧ (¬ (0 ≤ -ρ 1 + 3)) ∧ (¬ (ρ 1 = 4)) ∧ (¬ (ρ 1 = 5)) ∧ (ρ 1 = 6) := ⟨by omega, by omega, by omega, by omega, by omega, by omega, by omega⟩
  obtain ⟨-, -, m2, -, m4, m5, -⟩ := hm
  have m2 : γ 0 15 0 59 = ρ 4 := m2
  have m4 : γ 0 93 0 (ρ 0) = ρ 5 := m4
  have m5 : γ 0 94 0 (ρ 0) = ρ 6 := m5
  obtain ⟨l0, l1, -⟩ := hl
  have l0 : sn79 [ρ 0, ρ 3] (γ 0) 0 1 (γ 1) := hS79 _ _ _ _ _ l0
  have l1 : sn1 [0, ρ 2] (γ 1) 0 0 (γ 2) := hS1 _ _ _ _ _ l1
  show sn81 [ρ 0, ρ 1, ρ 2, ρ 3] (γ 0) 0 (ρ 6) (γ 2)
  refine Eq.symm ?_
  show fn81 [ρ 0, ρ 1] (γ 0) = _
  unfold fn81
  refine (zLet_eq (show _ = ρ 0 from rfl)).trans ?_
  refine (zLet_eq (show _ = ρ 1 from rfl)).trans ?_
  refine (if_neg w_0).trans ?_
  refine (if_pos w_1).trans ?_
  refine (zLet_eq m2).trans ?_
  refine (if_pos w_2).trans ?_
  refine (zLet_eq (show fn79 [ρ 0] (γ 0) = (0, 1, γ 1) from l0.symm)).trans ?_
  refine (zLet_eq (show _ = γ 1 from rfl)).trans ?_
  refine (if_pos zQ1_).trans ?_
  refine (zLet_eq (show fn1 [0] (γ 1) = (0, 0, γ 2) from l1.symm)).trans ?_
  refine (zLet_eq (show _ = γ 2 from rfl)).trans ?_
  refine (zLet_eq m4).trans ?_
  refine (if_neg w_3).trans ?_
  refine (if_neg w_4).trans ?_
  refine (if_neg w_5).trans ?_
  refine (if_pos w_6).trans ?_
  refine (zLet_eq m5).trans ?_
  rfl
set_option maxRecDepth 100000 in
theorem vn81_7 {S : Nat → zSpc} (hS1 : ∀ x g o v gz, S 1 x g o v gz → sn1 x g o v gz) (hS79 : ∀ x g o v gz, S 79 x g o v gz → sn79 x g o v gz) (hS80 : ∀ x g o v gz, S 80 x g o v gz → sn80 x g o v gz) {a : List Int} {g : rHp} : ∀ (ρ : Nat → Int) (γ : Nat → rHp), zO 4 S a g q81_7 ρ γ → zGl (fun _ _ _ => True) (sn81 a g) q81_7 ρ γ := by
  intro ρ γ h
  obtain ⟨ha, hg, hr, hf, hm, hc, hl⟩ := h
  have ha : a = [ρ 0, ρ 1, ρ 2, ρ 3] := ha
  subst ha
  subst hg
  obtain ⟨-, r1, -, -, r4, -⟩ := hr
  have r1 : (7 : Int) ≤ ρ 1 ∧ ρ 1 ≤ 7 := r1
  have r4 : (1 : Int) ≤ ρ 4 ∧ ρ 4 ≤ 1 := r4
  obtain ⟨w_0, w_1, w_2, w_3, w_4, w_5, w_6, w_7⟩ : (¬ (ρ 1 < 0)) ∧ (ρ 1 ≤ 8) ∧ (ρ 4 ≠ 0) ∧ (¬ (0 ≤ -ρ 1 + 3)) ∧ (¬ (ρ 1 = 4)) ∧ (¬ (ρ 1 = 5)) ∧ (¬ (ρ 1 = 6)) ∧ (ρ 1 = 7) := ⟨by omega, by omega, by omega, by omega, by omega, by omega, by omega, by omega⟩
  obtain ⟨-, -, m2, -, m4, m5, -⟩ := hm
  have m2 : γ 0 15 0 59 = ρ 4 := m2
  have m4 : γ 0 93 0 (ρ 0) = ρ 5 := m4
  have m5 : γ 0 95 0 (ρ 0) = ρ 6 := m5
  obtain ⟨l0, l1, -⟩ := hl
  have l0 : sn79 [ρ 0, ρ 3] (γ 0) 0 1 (γ 1) := hS79 _ _ _ _ _ l0
  have l1 : sn1 [0, ρ 2] (γ 1) 0 0 (γ 2) := hS1 _ _ _ _ _ l1
  show sn81 [ρ 0, ρ 1, ρ 2, ρ 3] (γ 0) 0 (ρ 6) (γ 2)
  refine Eq.symm ?_
  show fn81 [ρ 0, ρ 1] (γ 0) = _
  unfold fn81
  refine (zLet_eq (show _ = ρ 0 from rfl)).trans ?_
  refine (zLet_eq (show _ = ρ 1 from rfl)).trans ?_
  refine (if_neg w_0).trans ?_
  refine (if_pos w_1).trans ?_
  refine (zLet_eq m2).trans ?_
  refine (if_pos w_2).trans ?_
  refine (zLet_eq (show fn79 [ρ 0] (γ 0) = (0, 1, γ 1) from l0.symm)).trans ?_
  refine (zLet_eq (show _ = γ 1 from rfl)).trans ?_
  refine (if_pos zQ1_).trans ?_
  refine (zLet_eq (show fn1 [0] (γ 1) = (0, 0, γ 2) from l1.symm)).trans ?_
  refine (zLet_eq (show _ = γ 2 from rfl)).trans ?_
  refine (zLet_eq m4).trans ?_
  refine (if_neg w_3).trans ?_
  refine (if_neg w_4).trans ?_
  refine (if_neg w_5).trans ?_
  refine (if_neg w_6).trans ?_
  refine (if_pos w_7).trans ?_
  refine (zLet_eq m5).trans ?_
  rfl
set_option maxRecDepth 100000 in
theorem vn81_8 {S : Nat → zSpc} (hS1 : ∀ x g o v gz, S 1 x g o v gz → sn1 x g o v gz) (hS79 : ∀ x g o v gz, S 79 x g o v gz → sn79 x g o v gz) (hS80 : ∀ x g o v gz, S 80 x g o v gz → sn80 x g o v gz) {a : List Int} {g : rHp} : ∀ (ρ : Nat → Int) (γ : Nat → rHp), zO 4 S a g q81_8 ρ γ → zGl (fun _ _ _ => True) (sn81 a g) q81_8 ρ γ := by
  intro ρ γ h
  obtain ⟨ha, hg, hr, hf, hm, hc, hl⟩ := h
  have ha : a = [ρ 0, ρ 1, ρ 2, ρ 3] := ha
  subst ha
  subst hg
  obtain ⟨-, r1, -, -, r4, -⟩ := hr
  have r1 : (8 : Int) ≤ ρ 1 ∧ ρ 1 ≤ 8 := r1
  have r4 : (1 : Int) ≤ ρ 4 ∧ ρ 4 ≤ 1 := r4
  obtain ⟨w_0, w_1, w_2, w_3, w_4, w_5, w_6, w_7⟩ : (¬ (ρ 1 < 0)) ∧ (ρ 1 ≤ 8) ∧ (ρ 4 ≠ 0) ∧ (¬ (0 ≤ -ρ 1 + 3)) ∧ (¬ (ρ 1 = 4)) ∧ (¬ (ρ 1 = 5)) ∧ (¬ (ρ 1 = 6)) ∧ (¬ (ρ 1 = 7)) := ⟨by omega, by omega, by omega, by omega, by omega, by omega, by omega, by omega⟩
  obtain ⟨-, -, m2, -, m4, m5, -⟩ := hm
  have m2 : γ 0 15 0 59 = ρ 4 := m2
  have m4 : γ 0 93 0 (ρ 0) = ρ 5 := m4
  have m5 : γ 0 97 0 (ρ 0) = ρ 6 := m5
  obtain ⟨l0, l1, -⟩ := hl
  have l0 : sn79 [ρ 0, ρ 3] (γ 0) 0 1 (γ 1) := hS79 _ _ _ _ _ l0
  have l1 : sn1 [0, ρ 2] (γ 1) 0 0 (γ 2) := hS1 _ _ _ _ _ l1
  show sn81 [ρ 0, ρ 1, ρ 2, ρ 3] (γ 0) 0 (ρ 6) (γ 2)
  refine Eq.symm ?_
  show fn81 [ρ 0, ρ 1] (γ 0) = _
  unfold fn81
  refine (zLet_eq (show _ = ρ 0 from rfl)).trans ?_
  refine (zLet_eq (show _ = ρ 1 from rfl)).trans ?_
  refine (if_neg w_0).trans ?_
  refine (if_pos w_1).trans ?_
  refine (zLet_eq m2).trans ?_
  refine (if_pos w_2).trans ?_
  refine (zLet_eq (show fn79 [ρ 0] (γ 0) = (0, 1, γ 1) from l0.symm)).trans ?_
  refine (zLet_eq (show _ = γ 1 from rfl)).trans ?_
  refine (if_pos zQ1_).trans ?_
  refine (zLet_eq (show fn1 [0] (γ 1) = (0, 0, γ 2) from l1.symm)).trans ?_
  refine (zLet_eq (show _ = γ 2 from rfl)).trans ?_
  refine (zLet_eq m4).trans ?_
  refine (if_neg w_3).trans ?_
  refine (if_neg w_4).trans ?_
  refine (if_neg w_5).trans ?_
  refine (if_neg w_6).trans ?_
  refine (if_neg w_7).trans ?_
  refine (zLet_eq m5).trans ?_
  rfl
set_option maxRecDepth 100000 in
theorem vn81_9 {S : Nat → zSpc} (hS1 : ∀ x g o v gz, S 1 x g o v gz → sn1 x g o v gz) (hS79 : ∀ x g o v gz, S 79 x g o v gz → sn79 x g o v gz) (hS80 : ∀ x g o v gz, S 80 x g o v gz → sn80 x g o v gz) {a : List Int} {g : rHp} : ∀ (ρ : Nat → Int) (γ : Nat → rHp), zO 4 S a g q81_9 ρ γ → zGl (fun _ _ _ => True) (sn81 a g) q81_9 ρ γ := by
  intro ρ γ h
  obtain ⟨ha, hg, hr, hf, hm, hc, hl⟩ := h
  have ha : a = [ρ 0, ρ 1, ρ 2, ρ 3] := ha
  subst ha
  subst hg
  obtain ⟨-, r1, -, -, r4, -⟩ := hr
  have r1 : (0 : Int) ≤ ρ 1 ∧ ρ 1 ≤ 8 := r1
  have r4 : (0 : Int) ≤ ρ 4 ∧ ρ 4 ≤ 0 := r4
  obtain ⟨w_0, w_1, w_2⟩ : (¬ (ρ 1 < 0)) ∧ (ρ 1 ≤ 8) ∧ (¬ (ρ 4 ≠ 0)) := ⟨by omega, by omega, by omega⟩
  obtain ⟨-, -, m2, -⟩ := hm
  have m2 : γ 0 15 0 59 = ρ 4 := m2
  obtain ⟨l0, -⟩ := hl
  have l0 : sn1 [2, ρ 2] (γ 0) 0 1 (γ 1) := hS1 _ _ _ _ _ l0
  show sn81 [ρ 0, ρ 1, ρ 2, ρ 3] (γ 0) 0 0 (γ 1)
  refine Eq.symm ?_
  show fn81 [ρ 0, ρ 1] (γ 0) = _
  unfold fn81
  refine (zLet_eq (show _ = ρ 0 from rfl)).trans ?_
  refine (zLet_eq (show _ = ρ 1 from rfl)).trans ?_
  refine (if_neg w_0).trans ?_
  refine (if_pos w_1).trans ?_
  refine (zLet_eq m2).trans ?_
  refine (if_neg w_2).trans ?_
  refine (zLet_eq (show fn1 [2] (γ 0) = (0, 1, γ 1) from l0.symm)).trans ?_
  refine (zLet_eq (show _ = γ 1 from rfl)).trans ?_
  rfl
set_option maxRecDepth 100000 in
theorem vn81_10 {S : Nat → zSpc} (hS1 : ∀ x g o v gz, S 1 x g o v gz → sn1 x g o v gz) (hS79 : ∀ x g o v gz, S 79 x g o v gz → sn79 x g o v gz) (hS80 : ∀ x g o v gz, S 80 x g o v gz → sn80 x g o v gz) {a : List Int} {g : rHp} : ∀ (ρ : Nat → Int) (γ : Nat → rHp), zO 4 S a g q81_10 ρ γ → zGl (fun _ _ _ => True) (sn81 a g) q81_10 ρ γ := by
  intro ρ γ h
  obtain ⟨ha, hg, hr, hf, hm, hc, hl⟩ := h
  have ha : a = [ρ 0, ρ 1, ρ 2, ρ 3] := ha
  subst ha
  subst hg
  obtain ⟨-, r1, -⟩ := hr
  have r1 : (9 : Int) ≤ ρ 1 ∧ ρ 1 ≤ 2147483647 := r1
  obtain ⟨w_0, w_1⟩ : (¬ (ρ 1 < 0)) ∧ (¬ (ρ 1 ≤ 8)) := ⟨by omega, by omega⟩
  obtain ⟨l0, -⟩ := hl
  have l0 : sn1 [1, ρ 2] (γ 0) 0 1 (γ 1) := hS1 _ _ _ _ _ l0
  show sn81 [ρ 0, ρ 1, ρ 2, ρ 3] (γ 0) 0 0 (γ 1)
  refine Eq.symm ?_
  show fn81 [ρ 0, ρ 1] (γ 0) = _
  unfold fn81
  refine (zLet_eq (show _ = ρ 0 from rfl)).trans ?_
  refine (zLet_eq (show _ = ρ 1 from rfl)).trans ?_
  refine (if_neg w_0).trans ?_
  refine (if_neg w_1).trans ?_
  refine (zLet_eq (show fn1 [1] (γ 0) = (0, 1, γ 1) from l0.symm)).trans ?_
  refine (zLet_eq (show _ = γ 1 from rfl)).trans ?_
  rfl
set_option maxRecDepth 100000 in
theorem yn81 {S : Nat → zSpc} (hS1 : ∀ x g o v gz, S 1 x g o v gz → sn1 x g o v gz) (hS79 : ∀ x g o v gz, S 79 x g o v gz → sn79 x g o v gz) (hS80 : ∀ x g o v gz, S 80 x g o v gz → sn80 x g o v gz) : ∀ x g o v gz, zSem uW uT w81_.2.2.2.1 w81_.2.2.1.1.length S q81 (fun i => q81a.getD i []) (zNA a81_) x g o v gz → sn81 x g o v gz := by
  intro a g o v gz h
  exact zSem_all (l0 := q81) (las := q81a) (S := S) (J := (fun _ _ _ => True)) (P := sn81 a g) (fun _ => (show zAll _ [q81_0, q81_1, q81_2, q81_3, q81_4, q81_5, q81_6, q81_7, q81_8, q81_9, q81_10] from (zAll_c (vn81_0 hS1 hS79 hS80) (zAll_c (vn81_1 hS1 hS79 hS80) (zAll_c (vn81_2 hS1 hS79 hS80) (zAll_c (vn81_3 hS1 hS79 hS80) (zAll_c (vn81_4 hS1 hS79 hS80) (zAll_c (vn81_5 hS1 hS79 hS80) (zAll_c (vn81_6 hS1 hS79 hS80) (zAll_c (vn81_7 hS1 hS79 hS80) (zAll_c (vn81_8 hS1 hS79 hS80) (zAll_c (vn81_9 hS1 hS79 hS80) (zAll_c (vn81_10 hS1 hS79 hS80) zAll_n))))))))))))) (fun _ => (show zAllI _ 0 [] from trivial)) h
set_option maxRecDepth 100000 in
theorem vn82_0 {S : Nat → zSpc} (hS1 : ∀ x g o v gz, S 1 x g o v gz → sn1 x g o v gz) (hS79 : ∀ x g o v gz, S 79 x g o v gz → sn79 x g o v gz) {a : List Int} {g : rHp} : ∀ (ρ : Nat → Int) (γ : Nat → rHp), zO 4 S a g q82_0 ρ γ → zGl (fun _ _ _ => True) (sn82 a g) q82_0 ρ γ := by
  intro ρ γ h
  obtain ⟨ha, hg, hr, hf, hm, hc, hl⟩ := h
  have ha : a = [ρ 0, ρ 1, ρ 2, ρ 3] := ha
  subst ha
  subst hg
  obtain ⟨-, -, -, -, r4, -⟩ := hr
  have r4 : (1 : Int) ≤ ρ 4 ∧ ρ 4 ≤ 1 := r4
  have w_0 : ρ 4 ≠ 0 := by omega
  obtain ⟨-, -, m2, -⟩ := hm
  have m2 : γ 0 15 0 59 = ρ 4 := m2
  obtain ⟨l0, l1, -⟩ := hl
  have l0 : sn79 [ρ 0, ρ 3] (γ 0) 0 0 (γ 1) := hS79 _ _ _ _ _ l0
  have l1 : sn1 [2, ρ 2] (γ 1) 0 1 (γ 2) := hS1 _ _ _ _ _ l1
  show sn82 [ρ 0, ρ 1, ρ 2, ρ 3] (γ 0) 0 0 (γ 2)
  refine Eq.symm ?_
  show fn82 [ρ 0, ρ 1] (γ 0) = _
  unfold fn82
  refine (zLet_eq (show _ = ρ 0 from rfl)).trans ?_
  refine (zLet_eq (show _ = ρ 1 from rfl)).trans ?_
  refine (zLet_eq m2).trans ?_
  refine (if_pos w_0).trans ?_
  refine (zLet_eq (show fn79 [ρ 0] (γ 0) = (0, 0, γ 1) from l0.symm)).trans ?_
  refine (zLet_eq (show _ = γ 1 from rfl)).trans ?_
  refine (if_neg zQ0_).trans ?_
  refine (zLet_eq (show fn1 [2] (γ 1) = (0, 1, γ 2) from l1.symm)).trans ?_
  refine (zLet_eq (show _ = γ 2 from rfl)).trans ?_
  rfl
set_option maxRecDepth 100000 in
theorem vn82_1 {S : Nat → zSpc} (hS1 : ∀ x g o v gz, S 1 x g o v gz → sn1 x g o v gz) (hS79 : ∀ x g o v gz, S 79 x g o v gz → sn79 x g o v gz) {a : List Int} {g : rHp} : ∀ (ρ : Nat → Int) (γ : Nat → rHp), zO 4 S a g q82_1 ρ γ → zGl (fun _ _ _ => True) (sn82 a g) q82_1 ρ γ := by
  intro ρ γ h
  obtain ⟨ha, hg, hr, hf, hm, hc, hl⟩ := h
  have ha : a = [ρ 0, ρ 1, ρ 2, ρ 3] := ha
  subst ha
  subst hg
  obtain ⟨-, r1, -, -, r4, -⟩ := hr
  have r1 : ((-2147483648) : Int) ≤ ρ 1 ∧ ρ 1 ≤ (-1) := r1
  have r4 : (1 : Int) ≤ ρ 4 ∧ ρ 4 ≤ 1 := r4
  obtain ⟨w_0, w_1⟩ : (ρ 4 ≠ 0) ∧ (ρ 1 < 0) := ⟨by omega, by omega⟩
  obtain ⟨-, -, m2, -⟩ := hm
  have m2 : γ 0 15 0 59 = ρ 4 := m2
  obtain ⟨l0, l1, -⟩ := hl
  have l0 : sn79 [ρ 0, ρ 3] (γ 0) 0 1 (γ 1) := hS79 _ _ _ _ _ l0
  have l1 : sn1 [2, ρ 2] (γ 1) 0 1 (γ 2) := hS1 _ _ _ _ _ l1
  show sn82 [ρ 0, ρ 1, ρ 2, ρ 3] (γ 0) 0 0 (γ 2)
  refine Eq.symm ?_
  show fn82 [ρ 0, ρ 1] (γ 0) = _
  unfold fn82
  refine (zLet_eq (show _ = ρ 0 from rfl)).trans ?_
  refine (zLet_eq (show _ = ρ 1 from rfl)).trans ?_
  refine (zLet_eq m2).trans ?_
  refine (if_pos w_0).trans ?_
  refine (zLet_eq (show fn79 [ρ 0] (γ 0) = (0, 1, γ 1) from l0.symm)).trans ?_
  refine (zLet_eq (show _ = γ 1 from rfl)).trans ?_
  refine (if_pos zQ1_).trans ?_
  refine (if_pos w_1).trans ?_
  refine (zLet_eq (show fn1 [2] (γ 1) = (0, 1, γ 2) from l1.symm)).trans ?_
  refine (zLet_eq (show _ = γ 2 from rfl)).trans ?_
  rfl
set_option maxRecDepth 100000 in
theorem vn82_2 {S : Nat → zSpc} (hS1 : ∀ x g o v gz, S 1 x g o v gz → sn1 x g o v gz) (hS79 : ∀ x g o v gz, S 79 x g o v gz → sn79 x g o v gz) {a : List Int} {g : rHp} : ∀ (ρ : Nat → Int) (γ : Nat → rHp), zO 4 S a g q82_2 ρ γ → zGl (fun _ _ _ => True) (sn82 a g) q82_2 ρ γ := by
  intro ρ γ h
  obtain ⟨ha, hg, hr, hf, hm, hc, hl⟩ := h
  have ha : a = [ρ 0, ρ 1, ρ 2, ρ 3] := ha
  subst ha
  subst hg
  obtain ⟨-, r1, -, -, r4, -⟩ := hr
  have r1 : (0 : Int) ≤ ρ 1 ∧ ρ 1 ≤ 2147483647 := r1
  have r4 : (1 : Int) ≤ ρ 4 ∧ ρ 4 ≤ 1 := r4
  obtain ⟨f0, -⟩ := hf
  have f0 : (0 : Int) ≤ ρ 5 + -ρ 1 + (-1) := f0
  obtain ⟨w_0, w_1, w_2⟩ : (ρ 4 ≠ 0) ∧ (¬ (ρ 1 < 0)) ∧ (ρ 1 < ρ 5) := ⟨by omega, by omega, by omega⟩
  obtain ⟨-, -, m2, m3, -, m5, -⟩ := hm
  have m2 : γ 0 15 0 59 = ρ 4 := m2
  have m3 : γ 0 97 0 (ρ 0) = ρ 5 := m3
  have m5 : γ 0 98 0 (ρ 1 + 8 * ρ 0) = ρ 6 := m5
  obtain ⟨l0, l1, -⟩ := hl
  have l0 : sn79 [ρ 0, ρ 3] (γ 0) 0 1 (γ 1) := hS79 _ _ _ _ _ l0
  have l1 : sn1 [0, ρ 2] (γ 1) 0 0 (γ 2) := hS1 _ _ _ _ _ l1
  show sn82 [ρ 0, ρ 1, ρ 2, ρ 3] (γ 0) 0 (ρ 6) (γ 2)
  refine Eq.symm ?_
  show fn82 [ρ 0, ρ 1] (γ 0) = _
  unfold fn82
  refine (zLet_eq (show _ = ρ 0 from rfl)).trans ?_
  refine (zLet_eq (show _ = ρ 1 from rfl)).trans ?_
  refine (zLet_eq m2).trans ?_
  refine (if_pos w_0).trans ?_
  refine (zLet_eq (show fn79 [ρ 0] (γ 0) = (0, 1, γ 1) from l0.symm)).trans ?_
  refine (zLet_eq (show _ = γ 1 from rfl)).trans ?_
  refine (if_pos zQ1_).trans ?_
  refine (if_neg w_1).trans ?_
  refine (zLet_eq m3).trans ?_
  refine (if_pos w_2).trans ?_
  refine (zLet_eq (show fn1 [0] (γ 1) = (0, 0, γ 2) from l1.symm)).trans ?_
  refine (zLet_eq (show _ = γ 2 from rfl)).trans ?_
  refine (zLet_eq m5).trans ?_
  rfl
set_option maxRecDepth 100000 in
theorem vn82_3 {S : Nat → zSpc} (hS1 : ∀ x g o v gz, S 1 x g o v gz → sn1 x g o v gz) (hS79 : ∀ x g o v gz, S 79 x g o v gz → sn79 x g o v gz) {a : List Int} {g : rHp} : ∀ (ρ : Nat → Int) (γ : Nat → rHp), zO 4 S a g q82_3 ρ γ → zGl (fun _ _ _ => True) (sn82 a g) q82_3 ρ γ := by
  intro ρ γ h
  obtain ⟨ha, hg, hr, hf, hm, hc, hl⟩ := h
  have ha : a = [ρ 0, ρ 1, ρ 2, ρ 3] := ha
  subst ha
  subst hg
  obtain ⟨-, r1, -, -, r4, -⟩ := hr
  have r1 : (0 : Int) ≤ ρ 1 ∧ ρ 1 ≤ 2147483647 := r1
  have r4 : (1 : Int) ≤ ρ 4 ∧ ρ 4 ≤ 1 := r4
  obtain ⟨f0, -⟩ := hf
  have f0 : (0 : Int) ≤ -ρ 5 + ρ 1 := f0
  obtain ⟨w_0, w_1, w_2⟩ : (ρ 4 ≠ 0) ∧ (¬ (ρ 1 < 0)) ∧ (¬ (ρ 1 < ρ 5)) := ⟨by omega, by omega, by omega⟩
  obtain ⟨-, -, m2, m3, -⟩ := hm
  have m2 : γ 0 15 0 59 = ρ 4 := m2
  have m3 : γ 0 97 0 (ρ 0) = ρ 5 := m3
  obtain ⟨l0, l1, -⟩ := hl
  have l0 : sn79 [ρ 0, ρ 3] (γ 0) 0 1 (γ 1) := hS79 _ _ _ _ _ l0
  have l1 : sn1 [2, ρ 2] (γ 1) 0 1 (γ 2) := hS1 _ _ _ _ _ l1
  show sn82 [ρ 0, ρ 1, ρ 2, ρ 3] (γ 0) 0 0 (γ 2)
  refine Eq.symm ?_
  show fn82 [ρ 0, ρ 1] (γ 0) = _
  unfold fn82
  refine (zLet_eq (show _ = ρ 0 from rfl)).trans ?_
  refine (zLet_eq (show _ = ρ 1 from rfl)).trans ?_
  refine (zLet_eq m2).trans ?_
  refine (if_pos w_0).trans ?_
  refine (zLet_eq (show fn79 [ρ 0] (γ 0) = (0, 1, γ 1) from l0.symm)).trans ?_
  refine (zLet_eq (show _ = γ 1 from rfl)).trans ?_
  refine (if_pos zQ1_).trans ?_
  refine (if_neg w_1).trans ?_
  refine (zLet_eq m3).trans ?_
  refine (if_neg w_2).trans ?_
  refine (zLet_eq (show fn1 [2] (γ 1) = (0, 1, γ 2) from l1.symm)).trans ?_
  refine (zLet_eq (show _ = γ 2 from rfl)).trans ?_
  rfl
set_option maxRecDepth 100000 in
theorem vn82_4 {S : Nat → zSpc} (hS1 : ∀ x g o v gz, S 1 x g o v gz → sn1 x g o v gz) (hS79 : ∀ x g o v gz, S 79 x g o v gz → sn79 x g o v gz) {a : List Int} {g : rHp} : ∀ (ρ : Nat → Int) (γ : Nat → rHp), zO 4 S a g q82_4 ρ γ → zGl (fun _ _ _ => True) (sn82 a g) q82_4 ρ γ := by
  intro ρ γ h
  obtain ⟨ha, hg, hr, hf, hm, hc, hl⟩ := h
  have ha : a = [ρ 0, ρ 1, ρ 2, ρ 3] := ha
  subst ha
  subst hg
  obtain ⟨-, -, -, -, r4, -⟩ := hr
  have r4 : (0 : Int) ≤ ρ 4 ∧ ρ 4 ≤ 0 := r4
  have w_0 : ¬ (ρ 4 ≠ 0) := by omega
  obtain ⟨-, -, m2, -⟩ := hm
  have m2 : γ 0 15 0 59 = ρ 4 := m2
  obtain ⟨l0, -⟩ := hl
  have l0 : sn1 [1, ρ 2] (γ 0) 0 1 (γ 1) := hS1 _ _ _ _ _ l0
  show sn82 [ρ 0, ρ 1, ρ 2, ρ 3] (γ 0) 0 0 (γ 1)
  refine Eq.symm ?_
  show fn82 [ρ 0, ρ 1] (γ 0) = _
  unfold fn82
  refine (zLet_eq (show _ = ρ 0 from rfl)).trans ?_
  refine (zLet_eq (show _ = ρ 1 from rfl)).trans ?_
  refine (zLet_eq m2).trans ?_
  refine (if_neg w_0).trans ?_
  refine (zLet_eq (show fn1 [1] (γ 0) = (0, 1, γ 1) from l0.symm)).trans ?_
  refine (zLet_eq (show _ = γ 1 from rfl)).trans ?_
  rfl
set_option maxRecDepth 100000 in
theorem yn82 {S : Nat → zSpc} (hS1 : ∀ x g o v gz, S 1 x g o v gz → sn1 x g o v gz) (hS79 : ∀ x g o v gz, S 79 x g o v gz → sn79 x g o v gz) : ∀ x g o v gz, zSem uW uT w82_.2.2.2.1 w82_.2.2.1.1.length S q82 (fun i => q82a.getD i []) (zNA a82_) x g o v gz → sn82 x g o v gz := by
  intro a g o v gz h
  exact zSem_all (l0 := q82) (las := q82a) (S := S) (J := (fun _ _ _ => True)) (P := sn82 a g) (fun _ => (show zAll _ [q82_0, q82_1, q82_2, q82_3, q82_4] from (zAll_c (vn82_0 hS1 hS79) (zAll_c (vn82_1 hS1 hS79) (zAll_c (vn82_2 hS1 hS79) (zAll_c (vn82_3 hS1 hS79) (zAll_c (vn82_4 hS1 hS79) zAll_n))))))) (fun _ => (show zAllI _ 0 [] from trivial)) h
set_option maxRecDepth 100000 in
theorem vn83_0 {S : Nat → zSpc} (hS1 : ∀ x g o v gz, S 1 x g o v gz → sn1 x g o v gz) {a : List Int} {g : rHp} : ∀ (ρ : Nat → Int) (γ : Nat → rHp), zO 3 S a g q83_0 ρ γ → zGl (fun _ _ _ => True) (sn83 a g) q83_0 ρ γ := by
  intro ρ γ h
  obtain ⟨ha, hg, hr, hf, hm, hc, hl⟩ := h
  have ha : a = [ρ 0, ρ 1, ρ 2] := ha
  subst ha
  subst hg
  obtain ⟨r0, -, -, r3, -⟩ := hr
  have r0 : ((-2147483648) : Int) ≤ ρ 0 ∧ ρ 0 ≤ (-1) := r0
  have r3 : (1 : Int) ≤ ρ 3 ∧ ρ 3 ≤ 1 := r3
  obtain ⟨w_0, w_1⟩ : (ρ 3 ≠ 0) ∧ (ρ 0 < 0) := ⟨by omega, by omega⟩
  obtain ⟨-, m1, m2, -⟩ := hm
  have m1 : γ 0 15 0 13 = ρ 2 := m1
  have m2 : γ 0 15 0 59 = ρ 3 := m2
  obtain ⟨l0, -⟩ := hl
  have l0 : sn1 [2, ρ 1] (γ 0) 0 1 (γ 1) := hS1 _ _ _ _ _ l0
  show sn83 [ρ 0, ρ 1, ρ 2] (γ 0) 0 0 (γ 1)
  refine Eq.symm ?_
  show fn83 [ρ 0] (γ 0) = _
  unfold fn83
  refine (zLet_eq (show _ = ρ 0 from rfl)).trans ?_
  refine (zLet_eq m1).trans ?_
  refine (zLet_eq m2).trans ?_
  refine (if_pos w_0).trans ?_
  refine (if_pos w_1).trans ?_
  refine (zLet_eq (show fn1 [2] (γ 0) = (0, 1, γ 1) from l0.symm)).trans ?_
  refine (zLet_eq (show _ = γ 1 from rfl)).trans ?_
  rfl
set_option maxRecDepth 100000 in
theorem vn83_1 {S : Nat → zSpc} (hS1 : ∀ x g o v gz, S 1 x g o v gz → sn1 x g o v gz) {a : List Int} {g : rHp} : ∀ (ρ : Nat → Int) (γ : Nat → rHp), zO 3 S a g q83_1 ρ γ → zGl (fun _ _ _ => True) (sn83 a g) q83_1 ρ γ := by
  intro ρ γ h
  obtain ⟨ha, hg, hr, hf, hm, hc, hl⟩ := h
  have ha : a = [ρ 0, ρ 1, ρ 2] := ha
  subst ha
  subst hg
  obtain ⟨r0, -, -, r3, -⟩ := hr
  have r0 : (0 : Int) ≤ ρ 0 ∧ ρ 0 ≤ 2147483647 := r0
  have r3 : (1 : Int) ≤ ρ 3 ∧ ρ 3 ≤ 1 := r3
  obtain ⟨f0, -⟩ := hf
  have f0 : (0 : Int) ≤ ρ 2 + -ρ 0 + (-1) := f0
  obtain ⟨w_0, w_1, w_2⟩ : (ρ 3 ≠ 0) ∧ (¬ (ρ 0 < 0)) ∧ (ρ 0 < ρ 2) := ⟨by omega, by omega, by omega⟩
  obtain ⟨-, m1, m2, -, m4, -⟩ := hm
  have m1 : γ 0 15 0 13 = ρ 2 := m1
  have m2 : γ 0 15 0 59 = ρ 3 := m2
  have m4 : γ 0 92 0 (ρ 0) = ρ 4 := m4
  obtain ⟨l0, -⟩ := hl
  have l0 : sn1 [0, ρ 1] (γ 0) 0 0 (γ 1) := hS1 _ _ _ _ _ l0
  show sn83 [ρ 0, ρ 1, ρ 2] (γ 0) 0 (ρ 4) (γ 1)
  refine Eq.symm ?_
  show fn83 [ρ 0] (γ 0) = _
  unfold fn83
  refine (zLet_eq (show _ = ρ 0 from rfl)).trans ?_
  refine (zLet_eq m1).trans ?_
  refine (zLet_eq m2).trans ?_
  refine (if_pos w_0).trans ?_
  refine (if_neg w_1).trans ?_
  refine (if_pos w_2).trans ?_
  refine (zLet_eq (show fn1 [0] (γ 0) = (0, 0, γ 1) from l0.symm)).trans ?_
  refine (zLet_eq (show _ = γ 1 from rfl)).trans ?_
  refine (zLet_eq m4).trans ?_
  rfl
set_option maxRecDepth 100000 in
theorem vn83_2 {S : Nat → zSpc} (hS1 : ∀ x g o v gz, S 1 x g o v gz → sn1 x g o v gz) {a : List Int} {g : rHp} : ∀ (ρ : Nat → Int) (γ : Nat → rHp), zO 3 S a g q83_2 ρ γ → zGl (fun _ _ _ => True) (sn83 a g) q83_2 ρ γ := by
  intro ρ γ h
  obtain ⟨ha, hg, hr, hf, hm, hc, hl⟩ := h
  have ha : a = [ρ 0, ρ 1, ρ 2] := ha
  subst ha
  subst hg
  obtain ⟨r0, -, -, r3, -⟩ := hr
  have r0 : (0 : Int) ≤ ρ 0 ∧ ρ 0 ≤ 2147483647 := r0
  have r3 : (1 : Int) ≤ ρ 3 ∧ ρ 3 ≤ 1 := r3
  obtain ⟨f0, -⟩ := hf
  have f0 : (0 : Int) ≤ -ρ 2 + ρ 0 := f0
  obtain ⟨w_0, w_1, w_2⟩ : (ρ 3 ≠ 0) ∧ (¬ (ρ 0 < 0)) ∧ (¬ (ρ 0 < ρ 2)) := ⟨by omega, by omega, by omega⟩
  obtain ⟨-, m1, m2, -⟩ := hm
  have m1 : γ 0 15 0 13 = ρ 2 := m1
  have m2 : γ 0 15 0 59 = ρ 3 := m2
  obtain ⟨l0, -⟩ := hl
  have l0 : sn1 [2, ρ 1] (γ 0) 0 1 (γ 1) := hS1 _ _ _ _ _ l0
  show sn83 [ρ 0, ρ 1, ρ 2] (γ 0) 0 0 (γ 1)
  refine Eq.symm ?_
  show fn83 [ρ 0] (γ 0) = _
  unfold fn83
  refine (zLet_eq (show _ = ρ 0 from rfl)).trans ?_
  refine (zLet_eq m1).trans ?_
  refine (zLet_eq m2).trans ?_
  refine (if_pos w_0).trans ?_
  refine (if_neg w_1).trans ?_
  refine (if_neg w_2).trans ?_
  refine (zLet_eq (show fn1 [2] (γ 0) = (0, 1, γ 1) from l0.symm)).trans ?_
  refine (zLet_eq (show _ = γ 1 from rfl)).trans ?_
  rfl
set_option maxRecDepth 100000 in
theorem vn83_3 {S : Nat → zSpc} (hS1 : ∀ x g o v gz, S 1 x g o v gz → sn1 x g o v gz) {a : List Int} {g : rHp} : ∀ (ρ : Nat → Int) (γ : Nat → rHp), zO 3 S a g q83_3 ρ γ → zGl (fun _ _ _ => True) (sn83 a g) q83_3 ρ γ := by
  intro ρ γ h
  obtain ⟨ha, hg, hr, hf, hm, hc, hl⟩ := h
  have ha : a = [ρ 0, ρ 1, ρ 2] := ha
  subst ha
  subst hg
  obtain ⟨-, -, -, r3, -⟩ := hr
  have r3 : (0 : Int) ≤ ρ 3 ∧ ρ 3 ≤ 0 := r3
  have w_0 : ¬ (ρ 3 ≠ 0) := by omega
  obtain ⟨-, m1, m2, -⟩ := hm
  have m1 : γ 0 15 0 13 = ρ 2 := m1
  have m2 : γ 0 15 0 59 = ρ 3 := m2
  obtain ⟨l0, -⟩ := hl
  have l0 : sn1 [1, ρ 1] (γ 0) 0 1 (γ 1) := hS1 _ _ _ _ _ l0
  show sn83 [ρ 0, ρ 1, ρ 2] (γ 0) 0 0 (γ 1)
  refine Eq.symm ?_
  show fn83 [ρ 0] (γ 0) = _
  unfold fn83
  refine (zLet_eq (show _ = ρ 0 from rfl)).trans ?_
  refine (zLet_eq m1).trans ?_
  refine (zLet_eq m2).trans ?_
  refine (if_neg w_0).trans ?_
  refine (zLet_eq (show fn1 [1] (γ 0) = (0, 1, γ 1) from l0.symm)).trans ?_
  refine (zLet_eq (show _ = γ 1 from rfl)).trans ?_
  rfl
set_option maxRecDepth 100000 in
theorem yn83 {S : Nat → zSpc} (hS1 : ∀ x g o v gz, S 1 x g o v gz → sn1 x g o v gz) : ∀ x g o v gz, zSem uW uT w83_.2.2.2.1 w83_.2.2.1.1.length S q83 (fun i => q83a.getD i []) (zNA a83_) x g o v gz → sn83 x g o v gz := by
  intro a g o v gz h
  exact zSem_all (l0 := q83) (las := q83a) (S := S) (J := (fun _ _ _ => True)) (P := sn83 a g) (fun _ => (show zAll _ [q83_0, q83_1, q83_2, q83_3] from (zAll_c (vn83_0 hS1) (zAll_c (vn83_1 hS1) (zAll_c (vn83_2 hS1) (zAll_c (vn83_3 hS1) zAll_n)))))) (fun _ => (show zAllI _ 0 [] from trivial)) h
set_option maxRecDepth 100000 in
theorem vn84_0 {S : Nat → zSpc} (hS1 : ∀ x g o v gz, S 1 x g o v gz → sn1 x g o v gz) {a : List Int} {g : rHp} : ∀ (ρ : Nat → Int) (γ : Nat → rHp), zO 12 S a g q84_0 ρ γ → zGl (fun _ _ _ => True) (sn84 a g) q84_0 ρ γ := by
  intro ρ γ h
  obtain ⟨ha, hg, hr, hf, hm, hc, hl⟩ := h
  have ha : a = [ρ 0, ρ 1, ρ 2, ρ 3, ρ 4, ρ 5, ρ 6, ρ 7, ρ 8, ρ 9, ρ 10, ρ 11] := ha
  subst ha
  subst hg
  obtain ⟨r0, -⟩ := hr
  have r0 : ((-2147483648) : Int) ≤ ρ 0 ∧ ρ 0 ≤ (-1) := r0
  have w_0 : ρ 0 < 0 := by omega
  obtain ⟨-, m1, m2, m3, m4, m5, m6, m7, m8, m9, m10, -⟩ := hm
  have m1 : γ 0 15 0 3 = ρ 2 := m1
  have m2 : γ 0 15 0 4 = ρ 3 := m2
  have m3 : γ 0 15 0 8 = ρ 4 := m3
  have m4 : γ 0 15 0 13 = ρ 5 := m4
  have m5 : γ 0 15 0 17 = ρ 6 := m5
  have m6 : γ 0 15 0 32 = ρ 7 := m6
  have m7 : γ 0 15 0 61 = ρ 8 := m7
  have m8 : γ 0 15 0 71 = ρ 9 := m8
  have m9 : γ 0 15 0 74 = ρ 10 := m9
  have m10 : γ 0 15 0 75 = ρ 11 := m10
  obtain ⟨l0, -⟩ := hl
  have l0 : sn1 [1, ρ 1] (γ 0) 0 1 (γ 1) := hS1 _ _ _ _ _ l0
  show sn84 [ρ 0, ρ 1, ρ 2, ρ 3, ρ 4, ρ 5, ρ 6, ρ 7, ρ 8, ρ 9, ρ 10, ρ 11] (γ 0) 0 0 (γ 1)
  refine Eq.symm ?_
  show fn84 [ρ 0] (γ 0) = _
  unfold fn84
  refine (zLet_eq (show _ = ρ 0 from rfl)).trans ?_
  refine (zLet_eq m1).trans ?_
  refine (zLet_eq m2).trans ?_
  refine (zLet_eq m3).trans ?_
  refine (zLet_eq m4).trans ?_
  refine (zLet_eq m5).trans ?_
  refine (zLet_eq m6).trans ?_
  refine (zLet_eq m7).trans ?_
  refine (zLet_eq m8).trans ?_
  refine (zLet_eq m9).trans ?_
  refine (zLet_eq m10).trans ?_
  refine (if_pos w_0).trans ?_
  refine (zLet_eq (show fn1 [1] (γ 0) = (0, 1, γ 1) from l0.symm)).trans ?_
  refine (zLet_eq (show _ = γ 1 from rfl)).trans ?_
  rfl
set_option maxRecDepth 100000 in
theorem vn84_1 {S : Nat → zSpc} (hS1 : ∀ x g o v gz, S 1 x g o v gz → sn1 x g o v gz) {a : List Int} {g : rHp} : ∀ (ρ : Nat → Int) (γ : Nat → rHp), zO 12 S a g q84_1 ρ γ → zGl (fun _ _ _ => True) (sn84 a g) q84_1 ρ γ := by
  intro ρ γ h
  obtain ⟨ha, hg, hr, hf, hm, hc, hl⟩ := h
  have ha : a = [ρ 0, ρ 1, ρ 2, ρ 3, ρ 4, ρ 5, ρ 6, ρ 7, ρ 8, ρ 9, ρ 10, ρ 11] := ha
  subst ha
  subst hg
  obtain ⟨r0, -⟩ := hr
  have r0 : (9 : Int) ≤ ρ 0 ∧ ρ 0 ≤ 9 := r0
  obtain ⟨w_0, w_1, w_2⟩ : (¬ (ρ 0 < 0)) ∧ (ρ 0 ≤ 9) ∧ (ρ 0 = 9) := ⟨by omega, by omega, by omega⟩
  obtain ⟨-, m1, m2, m3, m4, m5, m6, m7, m8, m9, m10, -⟩ := hm
  have m1 : γ 0 15 0 3 = ρ 2 := m1
  have m2 : γ 0 15 0 4 = ρ 3 := m2
  have m3 : γ 0 15 0 8 = ρ 4 := m3
  have m4 : γ 0 15 0 13 = ρ 5 := m4
  have m5 : γ 0 15 0 17 = ρ 6 := m5
  have m6 : γ 0 15 0 32 = ρ 7 := m6
  have m7 : γ 0 15 0 61 = ρ 8 := m7
  have m8 : γ 0 15 0 71 = ρ 9 := m8
  have m9 : γ 0 15 0 74 = ρ 10 := m9
  have m10 : γ 0 15 0 75 = ρ 11 := m10
  obtain ⟨l0, -⟩ := hl
  have l0 : sn1 [0, ρ 1] (γ 0) 0 0 (γ 1) := hS1 _ _ _ _ _ l0
  show sn84 [ρ 0, ρ 1, ρ 2, ρ 3, ρ 4, ρ 5, ρ 6, ρ 7, ρ 8, ρ 9, ρ 10, ρ 11] (γ 0) 0 (ρ 4) (γ 1)
  refine Eq.symm ?_
  show fn84 [ρ 0] (γ 0) = _
  unfold fn84
  refine (zLet_eq (show _ = ρ 0 from rfl)).trans ?_
  refine (zLet_eq m1).trans ?_
  refine (zLet_eq m2).trans ?_
  refine (zLet_eq m3).trans ?_
  refine (zLet_eq m4).trans ?_
  refine (zLet_eq m5).trans ?_
  refine (zLet_eq m6).trans ?_
  refine (zLet_eq m7).trans ?_
  refine (zLet_eq m8).trans ?_
  refine (zLet_eq m9).trans ?_
  refine (zLet_eq m10).trans ?_
  refine (if_neg w_0).trans ?_
  refine (if_pos w_1).trans ?_
  refine (zLet_eq (show fn1 [0] (γ 0) = (0, 0, γ 1) from l0.symm)).trans ?_
  refine (zLet_eq (show _ = γ 1 from rfl)).trans ?_
  refine (if_pos w_2).trans ?_
  rfl
set_option maxRecDepth 100000 in
theorem vn84_2 {S : Nat → zSpc} (hS1 : ∀ x g o v gz, S 1 x g o v gz → sn1 x g o v gz) {a : List Int} {g : rHp} : ∀ (ρ : Nat → Int) (γ : Nat → rHp), zO 12 S a g q84_2 ρ γ → zGl (fun _ _ _ => True) (sn84 a g) q84_2 ρ γ := by
  intro ρ γ h
  obtain ⟨ha, hg, hr, hf, hm, hc, hl⟩ := h
  have ha : a = [ρ 0, ρ 1, ρ 2, ρ 3, ρ 4, ρ 5, ρ 6, ρ 7, ρ 8, ρ 9, ρ 10, ρ 11] := ha
  subst ha
  subst hg
  obtain ⟨r0, -⟩ := hr
  have r0 : (0 : Int) ≤ ρ 0 ∧ ρ 0 ≤ 0 := r0
  obtain ⟨w_0, w_1, w_2, w_3⟩ : (¬ (ρ 0 < 0)) ∧ (ρ 0 ≤ 9) ∧ (¬ (ρ 0 = 9)) ∧ (ρ 0 = 0) := ⟨by omega, by omega, by omega, by omega⟩
  obtain ⟨-, m1, m2, m3, m4, m5, m6, m7, m8, m9, m10, -⟩ := hm
  have m1 : γ 0 15 0 3 = ρ 2 := m1
  have m2 : γ 0 15 0 4 = ρ 3 := m2
  have m3 : γ 0 15 0 8 = ρ 4 := m3
  have m4 : γ 0 15 0 13 = ρ 5 := m4
  have m5 : γ 0 15 0 17 = ρ 6 := m5
  have m6 : γ 0 15 0 32 = ρ 7 := m6
  have m7 : γ 0 15 0 61 = ρ 8 := m7
  have m8 : γ 0 15 0 71 = ρ 9 := m8
  have m9 : γ 0 15 0 74 = ρ 10 := m9
  have m10 : γ 0 15 0 75 = ρ 11 := m10
  obtain ⟨l0, -⟩ := hl
  have l0 : sn1 [0, ρ 1] (γ 0) 0 0 (γ 1) := hS1 _ _ _ _ _ l0
  show sn84 [ρ 0, ρ 1, ρ 2, ρ 3, ρ 4, ρ 5, ρ 6, ρ 7, ρ 8, ρ 9, ρ 10, ρ 11] (γ 0) 0 (ρ 2) (γ 1)
  refine Eq.symm ?_
  show fn84 [ρ 0] (γ 0) = _
  unfold fn84
  refine (zLet_eq (show _ = ρ 0 from rfl)).trans ?_
  refine (zLet_eq m1).trans ?_
  refine (zLet_eq m2).trans ?_
  refine (zLet_eq m3).trans ?_
  refine (zLet_eq m4).trans ?_
  refine (zLet_eq m5).trans ?_
  refine (zLet_eq m6).trans ?_
  refine (zLet_eq m7).trans ?_
  refine (zLet_eq m8).trans ?_
  refine (zLet_eq m9).trans ?_
  refine (zLet_eq m10).trans ?_
  refine (if_neg w_0).trans ?_
  refine (if_pos w_1).trans ?_
  refine (zLet_eq (show fn1 [0] (γ 0) = (0, 0, γ 1) from l0.symm)).trans ?_
  refine (zLet_eq (show _ = γ 1 from rfl)).trans ?_
  refine (if_neg w_2).trans ?_
  refine (if_pos w_3).trans ?_
  rfl
set_option maxRecDepth 100000 in
theorem vn84_3 {S : Nat → zSpc} (hS1 : ∀ x g o v gz, S 1 x g o v gz → sn1 x g o v gz) {a : List Int} {g : rHp} : ∀ (ρ : Nat → Int) (γ : Nat → rHp), zO 12 S a g q84_3 ρ γ → zGl (fun _ _ _ => True) (sn84 a g) q84_3 ρ γ := by
  intro ρ γ h
  obtain ⟨ha, hg, hr, hf, hm, hc, hl⟩ := h
  have ha : a = [ρ 0, ρ 1, ρ 2, ρ 3, ρ 4, ρ 5, ρ 6, ρ 7, ρ 8, ρ 9, ρ 10, ρ 11] := ha
  subst ha
  subst hg
  obtain ⟨r0, -⟩ := hr
  have r0 : (1 : Int) ≤ ρ 0 ∧ ρ 0 ≤ 1 := r0
  obtain ⟨w_0, w_1, w_2, w_3, w_4⟩ : (¬ (ρ 0 < 0)) ∧ (ρ 0 ≤ 9) ∧ (¬ (ρ 0 = 9)) ∧ (¬ (ρ 0 = 0)) ∧ (ρ 0 = 1) := ⟨by omega, by omega, by omega, by omega, by omega⟩
  obtain ⟨-, m1, m2, m3, m4, m5, m6, m7, m8, m9, m10, -⟩ := hm
  have m1 : γ 0 15 0 3 = ρ 2 := m1
  have m2 : γ 0 15 0 4 = ρ 3 := m2
  have m3 : γ 0 15 0 8 = ρ 4 := m3
  have m4 : γ 0 15 0 13 = ρ 5 := m4
  have m5 : γ 0 15 0 17 = ρ 6 := m5
  have m6 : γ 0 15 0 32 = ρ 7 := m6
  have m7 : γ 0 15 0 61 = ρ 8 := m7
  have m8 : γ 0 15 0 71 = ρ 9 := m8
  have m9 : γ 0 15 0 74 = ρ 10 := m9
  have m10 : γ 0 15 0 75 = ρ 11 := m10
  obtain ⟨l0, -⟩ := hl
  have l0 : sn1 [0, ρ 1] (γ 0) 0 0 (γ 1) := hS1 _ _ _ _ _ l0
  show sn84 [ρ 0, ρ 1, ρ 2, ρ 3, ρ 4, ρ 5, ρ 6, ρ 7, ρ 8, ρ 9, ρ 10, ρ 11] (γ 0) 0 (ρ 3) (γ 1)
  refine Eq.symm ?_
  show fn84 [ρ 0] (γ 0) = _
  unfold fn84
  refine (zLet_eq (show _ = ρ 0 from rfl)).trans ?_
  refine (zLet_eq m1).trans ?_
  refine (zLet_eq m2).trans ?_
  refine (zLet_eq m3).trans ?_
  refine (zLet_eq m4).trans ?_
  refine (zLet_eq m5).trans ?_
  refine (zLet_eq m6).trans ?_
  refine (zLet_eq m7).trans ?_
  refine (zLet_eq m8).trans ?_
  refine (zLet_eq m9).trans ?_
  refine (zLet_eq m10).trans ?_
  refine (if_neg w_0).trans ?_
  refine (if_pos w_1).trans ?_
  refine (zLet_eq (show fn1 [0] (γ 0) = (0, 0, γ 1) from l0.symm)).trans ?_
  refine (zLet_eq (show _ = γ 1 from rfl)).trans ?_
  refine (if_neg w_2).trans ?_
  refine (if_neg w_3).trans ?_
  refine (if_pos w_4).trans ?_
  rfl
set_option maxRecDepth 100000 in
theorem vn84_4 {S : Nat → zSpc} (hS1 : ∀ x g o v gz, S 1 x g o v gz → sn1 x g o v gz) {a : List Int} {g : rHp} : ∀ (ρ : Nat → Int) (γ : Nat → rHp), zO 12 S a g q84_4 ρ γ → zGl (fun _ _ _ => True) (sn84 a g) q84_4 ρ γ := by
  intro ρ γ h
  obtain ⟨ha, hg, hr, hf, hm, hc, hl⟩ := h
  have ha : a = [ρ 0, ρ 1, ρ 2, ρ 3, ρ 4, ρ 5, ρ 6, ρ 7, ρ 8, ρ 9, ρ 10, ρ 11] := ha
  subst ha
  subst hg
  obtain ⟨r0, -⟩ := hr
  have r0 : (2 : Int) ≤ ρ 0 ∧ ρ 0 ≤ 2 := r0
  obtain ⟨w_0, w_1, w_2, w_3, w_4, w_5⟩ : (¬ (ρ 0 < 0)) ∧ (ρ 0 ≤ 9) ∧ (¬ (ρ 0 = 9)) ∧ (¬ (ρ 0 = 0)) ∧ (¬ (ρ 0 = 1)) ∧ (ρ 0 = 2) := ⟨by omega, by omega, by omega, by omega, by omega, by omega⟩
  obtain ⟨-, m1, m2, m3, m4, m5, m6, m7, m8, m9, m10, -⟩ := hm
  have m1 : γ 0 15 0 3 = ρ 2 := m1
  have m2 : γ 0 15 0 4 = ρ 3 := m2
  have m3 : γ 0 15 0 8 = ρ 4 := m3
  have m4 : γ 0 15 0 13 = ρ 5 := m4
  have m5 : γ 0 15 0 17 = ρ 6 := m5
  have m6 : γ 0 15 0 32 = ρ 7 := m6
  have m7 : γ 0 15 0 61 = ρ 8 := m7
  have m8 : γ 0 15 0 71 = ρ 9 := m8
  have m9 : γ 0 15 0 74 = ρ 10 := m9
  have m10 : γ 0 15 0 75 = ρ 11 := m10
  obtain ⟨l0, -⟩ := hl
  have l0 : sn1 [0, ρ 1] (γ 0) 0 0 (γ 1) := hS1 _ _ _ _ _ l0
  show sn84 [ρ 0, ρ 1, ρ 2, ρ 3, ρ 4, ρ 5, ρ 6, ρ 7, ρ 8, ρ 9, ρ 10, ρ 11] (γ 0) 0 (ρ 7) (γ 1)
  refine Eq.symm ?_
  show fn84 [ρ 0] (γ 0) = _
  unfold fn84
  refine (zLet_eq (show _ = ρ 0 from rfl)).trans ?_
  refine (zLet_eq m1).trans ?_
  refine (zLet_eq m2).trans ?_
  refine (zLet_eq m3).trans ?_
  refine (zLet_eq m4).trans ?_
  refine (zLet_eq m5).trans ?_
  refine (zLet_eq m6).trans ?_
  refine (zLet_eq m7).trans ?_
  refine (zLet_eq m8).trans ?_
  refine (zLet_eq m9).trans ?_
  refine (zLet_eq m10).trans ?_
  refine (if_neg w_0).trans ?_
  refine (if_pos w_1).trans ?_
  refine (zLet_eq (show fn1 [0] (γ 0) = (0, 0, γ 1) from l0.symm)).trans ?_
  refine (zLet_eq (show _ = γ 1 from rfl)).trans ?_
  refine (if_neg w_2).trans ?_
  refine (if_neg w_3).trans ?_
  refine (if_neg w_4).trans ?_
  refine (if_pos w_5).trans ?_
  rfl
set_option maxRecDepth 100000 in
theorem vn84_5 {S : Nat → zSpc} (hS1 : ∀ x g o v gz, S 1 x g o v gz → sn1 x g o v gz) {a : List Int} {g : rHp} : ∀ (ρ : Nat → Int) (γ : Nat → rHp), zO 12 S a g q84_5 ρ γ → zGl (fun _ _ _ => True) (sn84 a g) q84_5 ρ γ := by
  intro ρ γ h
  obtain ⟨ha, hg, hr, hf, hm, hc, hl⟩ := h
  have ha : a = [ρ 0, ρ 1, ρ 2, ρ 3, ρ 4, ρ 5, ρ 6, ρ 7, ρ 8, ρ 9, ρ 10, ρ 11] := ha
  subst ha
  subst hg
  obtain ⟨r0, -⟩ := hr
  have r0 : (3 : Int) ≤ ρ 0 ∧ ρ 0 ≤ 3 := r0
  obtain ⟨w_0, w_1, w_2, w_3, w_4, w_5, w_6⟩ : (¬ (ρ 0 < 0)) ∧ (ρ 0 ≤ 9) ∧ (¬ (ρ 0 = 9)) ∧ (¬ (ρ 0 = 0)) ∧ (¬ (ρ 0 = 1)) ∧ (¬ (ρ 0 = 2)) ∧ (ρ 0 = 3) := ⟨by omega, by omega, by omega, by omega, by omega, by omega, by omega⟩
  obtain ⟨-, m1, m2, m3, m4, m5, m6, m7, m8, m9, m10, -⟩ := hm
  have m1 : γ 0 15 0 3 = ρ 2 := m1
  have m2 : γ 0 15 0 4 = ρ 3 := m2
  have m3 : γ 0 15 0 8 = ρ 4 := m3
  have m4 : γ 0 15 0 13 = ρ 5 := m4
  have m5 : γ 0 15 0 17 = ρ 6 := m5
  have m6 : γ 0 15 0 32 = ρ 7 := m6
  have m7 : γ 0 15 0 61 = ρ 8 := m7
  have m8 : γ 0 15 0 71 = ρ 9 := m8
  have m9 : γ 0 15 0 74 = ρ 10 := m9
  have m10 : γ 0 15 0 75 = ρ 11 := m10
  obtain ⟨l0, -⟩ := hl
  have l0 : sn1 [0, ρ 1] (γ 0) 0 0 (γ 1) := hS1 _ _ _ _ _ l0
  show sn84 [ρ 0, ρ 1, ρ 2, ρ 3, ρ 4, ρ 5, ρ 6, ρ 7, ρ 8, ρ 9, ρ 10, ρ 11] (γ 0) 0 (ρ 6) (γ 1)
  refine Eq.symm ?_
  show fn84 [ρ 0] (γ 0) = _
  unfold fn84
  refine (zLet_eq (show _ = ρ 0 from rfl)).trans ?_
  refine (zLet_eq m1).trans ?_
  refine (zLet_eq m2).trans ?_
  refine (zLet_eq m3).trans ?_
  refine (zLet_eq m4).trans ?_
  refine (zLet_eq m5).trans ?_
  refine (zLet_eq m6).trans ?_
  refine (zLet_eq m7).trans ?_
  refine (zLet_eq m8).trans ?_
  refine (zLet_eq m9).trans ?_
  refine (zLet_eq m10).trans ?_
  refine (if_neg w_0).trans ?_
  refine (if_pos w_1).trans ?_
  refine (zLet_eq (show fn1 [0] (γ 0) = (0, 0, γ 1) from l0.symm)).trans ?_
  refine (zLet_eq (show _ = γ 1 from rfl)).trans ?_
  refine (if_neg w_2).trans ?_
  refine (if_neg w_3).trans ?_
  refine (if_neg w_4).trans ?_
  refine (if_neg w_5).trans ?_
  refine (if_pos w_6).trans ?_
  rfl
set_option maxRecDepth 100000 in
theorem vn84_6 {S : Nat → zSpc} (hS1 : ∀ x g o v gz, S 1 x g o v gz → sn1 x g o v gz) {a : List Int} {g : rHp} : ∀ (ρ : Nat → Int) (γ : Nat → rHp), zO 12 S a g q84_6 ρ γ → zGl (fun _ _ _ => True) (sn84 a g) q84_6 ρ γ := by
  intro ρ γ h
  obtain ⟨ha, hg, hr, hf, hm, hc, hl⟩ := h
  have ha : a = [ρ 0, ρ 1, ρ 2, ρ 3, ρ 4, ρ 5, ρ 6, ρ 7, ρ 8, ρ 9, ρ 10, ρ 11] := ha
  subst ha
  subst hg
  obtain ⟨r0, -⟩ := hr
  have r0 : (4 : Int) ≤ ρ 0 ∧ ρ 0 ≤ 4 := r0
  obtain ⟨w_0, w_1, w_2, w_3, w_4, w_5, w_6, w_7⟩ : (¬ (ρ 0 < 0)) ∧ (ρ 0 ≤ 9) ∧ (¬ (ρ 0 = 9)) ∧ (¬ (ρ 0 = 0)) ∧ (¬ (ρ 0 = 1)) ∧ (¬ (ρ 0 = 2)) ∧ (¬ (ρ 0 = 3)) ∧ (ρ 0 = 4) := ⟨by omega, by omega, by omega, by omega, by omega, by omega, by omega, by omega⟩
  obtain ⟨-, m1, m2, m3, m4, m5, m6, m7, m8, m9, m10, -⟩ := hm
  have m1 : γ 0 15 0 3 = ρ 2 := m1
  have m2 : γ 0 15 0 4 = ρ 3 := m2
  have m3 : γ 0 15 0 8 = ρ 4 := m3
  have m4 : γ 0 15 0 13 = ρ 5 := m4
  have m5 : γ 0 15 0 17 = ρ 6 := m5
  have m6 : γ 0 15 0 32 = ρ 7 := m6
  have m7 : γ 0 15 0 61 = ρ 8 := m7
  have m8 : γ 0 15 0 71 = ρ 9 := m8
  have m9 : γ 0 15 0 74 = ρ 10 := m9
  have m10 : γ 0 15 0 75 = ρ 11 := m10
  obtain ⟨l0, -⟩ := hl
  have l0 : sn1 [0, ρ 1] (γ 0) 0 0 (γ 1) := hS1 _ _ _ _ _ l0
  show sn84 [ρ 0, ρ 1, ρ 2, ρ 3, ρ 4, ρ 5, ρ 6, ρ 7, ρ 8, ρ 9, ρ 10, ρ 11] (γ 0) 0 (ρ 5) (γ 1)
  refine Eq.symm ?_
  show fn84 [ρ 0] (γ 0) = _
  unfold fn84
  refine (zLet_eq (show _ = ρ 0 from rfl)).trans ?_
  refine (zLet_eq m1).trans ?_
  refine (zLet_eq m2).trans ?_
  refine (zLet_eq m3).trans ?_
  refine (zLet_eq m4).trans ?_
  refine (zLet_eq m5).trans ?_
  refine (zLet_eq m6).trans ?_
  refine (zLet_eq m7).trans ?_
  refine (zLet_eq m8).trans ?_
  refine (zLet_eq m9).trans ?_
  refine (zLet_eq m10).trans ?_
  refine (if_neg w_0).trans ?_
  refine (if_pos w_1).trans ?_
  refine (zLet_eq (show fn1 [0] (γ 0) = (0, 0, γ 1) from l0.symm)).trans ?_
  refine (zLet_eq (show _ = γ 1 from rfl)).trans ?_
  refine (if_neg w_2).trans ?_
  refine (if_neg w_3).trans ?_
  refine (if_neg w_4).trans ?_
  refine (if_neg w_5).trans ?_
  refine (if_neg w_6).trans ?_
  refine (if_pos w_7).trans ?_
  rfl
set_option maxRecDepth 100000 in
theorem vn84_7 {S : Nat → zSpc} (hS1 : ∀ x g o v gz, S 1 x g o v gz → sn1 x g o v gz) {a : List Int} {g : rHp} : ∀ (ρ : Nat → Int) (γ : Nat → rHp), zO 12 S a g q84_7 ρ γ → zGl (fun _ _ _ => True) (sn84 a g) q84_7 ρ γ := by
  intro ρ γ h
  obtain ⟨ha, hg, hr, hf, hm, hc, hl⟩ := h
  have ha : a = [ρ 0, ρ 1, ρ 2, ρ 3, ρ 4, ρ 5, ρ 6, ρ 7, ρ 8, ρ 9, ρ 10, ρ 11] := ha
  subst ha
  subst hg
  obtain ⟨r0, -, -, -, -, -, -, -, -, -, -, -, r12, -⟩ := hr
  have r0 : (5 : Int) ≤ ρ 0 ∧ ρ 0 ≤ 5 := r0
  have r12 : (0 : Int) ≤ ρ 12 ∧ ρ 12 ≤ 0 := r12
  obtain ⟨w_0, w_1, w_2, w_3, w_4, w_5, w_6, w_7, w_8, w_9⟩ : (¬ (ρ 0 < 0)) ∧ (ρ 0 ≤ 9) ∧ (¬ (ρ 0 = 9)) ∧ (¬ (ρ 0 = 0)) ∧ (¬ (ρ 0 = 1)) ∧ (¬ (ρ 0 = 2)) ∧ (¬ (ρ 0 = 3)) ∧ (¬ (ρ 0 = 4)) ∧ (ρ 0 = 5) ∧ (ρ 12 = 0) := ⟨by omega, by omega, by omega, by omega, by omega, by omega, by omega, by omega, by omega, by omega⟩
  obtain ⟨-, m1, m2, m3, m4, m5, m6, m7, m8, m9, m10, -, m12, -⟩ := hm
  have m1 : γ 0 15 0 3 = ρ 2 := m1
  have m2 : γ 0 15 0 4 = ρ 3 := m2
  have m3 : γ 0 15 0 8 = ρ 4 := m3
  have m4 : γ 0 15 0 13 = ρ 5 := m4
  have m5 : γ 0 15 0 17 = ρ 6 := m5
  have m6 : γ 0 15 0 32 = ρ 7 := m6
  have m7 : γ 0 15 0 61 = ρ 8 := m7
  have m8 : γ 0 15 0 71 = ρ 9 := m8
  have m9 : γ 0 15 0 74 = ρ 10 := m9
  have m10 : γ 0 15 0 75 = ρ 11 := m10
  have m12 : γ 0 15 0 59 = ρ 12 := m12
  obtain ⟨l0, -⟩ := hl
  have l0 : sn1 [0, ρ 1] (γ 0) 0 0 (γ 1) := hS1 _ _ _ _ _ l0
  show sn84 [ρ 0, ρ 1, ρ 2, ρ 3, ρ 4, ρ 5, ρ 6, ρ 7, ρ 8, ρ 9, ρ 10, ρ 11] (γ 0) 0 0 (γ 1)
  refine Eq.symm ?_
  show fn84 [ρ 0] (γ 0) = _
  unfold fn84
  refine (zLet_eq (show _ = ρ 0 from rfl)).trans ?_
  refine (zLet_eq m1).trans ?_
  refine (zLet_eq m2).trans ?_
  refine (zLet_eq m3).trans ?_
  refine (zLet_eq m4).trans ?_
  refine (zLet_eq m5).trans ?_
  refine (zLet_eq m6).trans ?_
  refine (zLet_eq m7).trans ?_
  refine (zLet_eq m8).trans ?_
  refine (zLet_eq m9).trans ?_
  refine (zLet_eq m10).trans ?_
  refine (if_neg w_0).trans ?_
  refine (if_pos w_1).trans ?_
  refine (zLet_eq (show fn1 [0] (γ 0) = (0, 0, γ 1) from l0.symm)).trans ?_
  refine (zLet_eq (show _ = γ 1 from rfl)).trans ?_
  refine (if_neg w_2).trans ?_
  refine (if_neg w_3).trans ?_
  refine (if_neg w_4).trans ?_
  refine (if_neg w_5).trans ?_
  refine (if_neg w_6).trans ?_
  refine (if_neg w_7).trans ?_
  refine (if_pos w_8).trans ?_
  refine (zLet_eq m12).trans ?_
  refine (if_pos w_9).trans ?_
  rfl
set_option maxRecDepth 100000 in
theorem vn84_8 {S : Nat → zSpc} (hS1 : ∀ x g o v gz, S 1 x g o v gz → sn1 x g o v gz) {a : List Int} {g : rHp} : ∀ (ρ : Nat → Int) (γ : Nat → rHp), zO 12 S a g q84_8 ρ γ → zGl (fun _ _ _ => True) (sn84 a g) q84_8 ρ γ := by
  intro ρ γ h
  obtain ⟨ha, hg, hr, hf, hm, hc, hl⟩ := h
  have ha : a = [ρ 0, ρ 1, ρ 2, ρ 3, ρ 4, ρ 5, ρ 6, ρ 7, ρ 8, ρ 9, ρ 10, ρ 11] := ha
  subst ha
  subst hg
  obtain ⟨r0, -, -, -, -, -, -, -, -, -, -, -, r12, -⟩ := hr
  have r0 : (5 : Int) ≤ ρ 0 ∧ ρ 0 ≤ 5 := r0
  have r12 : (1 : Int) ≤ ρ 12 ∧ ρ 12 ≤ 1 := r12
  obtain ⟨w_0, w_1, w_2, w_3, w_4, w_5, w_6, w_7, w_8, w_9⟩ : (¬ (ρ 0 < 0)) ∧ (ρ 0 ≤ 9) ∧ (¬ (ρ 0 = 9)) ∧ (¬ (ρ 0 = 0)) ∧ (¬ (ρ 0 = 1)) ∧ (¬ (ρ 0 = 2)) ∧ (¬ (ρ 0 = 3)) ∧ (¬ (ρ 0 = 4)) ∧ (ρ 0 = 5) ∧ (¬ (ρ 12 = 0)) := ⟨by omega, by omega, by omega, by omega, by omega, by omega, by omega, by omega, by omega, by omega⟩
  obtain ⟨-, m1, m2, m3, m4, m5, m6, m7, m8, m9, m10, -, m12, -⟩ := hm
  have m1 : γ 0 15 0 3 = ρ 2 := m1
  have m2 : γ 0 15 0 4 = ρ 3 := m2
  have m3 : γ 0 15 0 8 = ρ 4 := m3
  have m4 : γ 0 15 0 13 = ρ 5 := m4
  have m5 : γ 0 15 0 17 = ρ 6 := m5
  have m6 : γ 0 15 0 32 = ρ 7 := m6
  have m7 : γ 0 15 0 61 = ρ 8 := m7
  have m8 : γ 0 15 0 71 = ρ 9 := m8
  have m9 : γ 0 15 0 74 = ρ 10 := m9
  have m10 : γ 0 15 0 75 = ρ 11 := m10
  have m12 : γ 0 15 0 59 = ρ 12 := m12
  obtain ⟨l0, -⟩ := hl
  have l0 : sn1 [0, ρ 1] (γ 0) 0 0 (γ 1) := hS1 _ _ _ _ _ l0
  show sn84 [ρ 0, ρ 1, ρ 2, ρ 3, ρ 4, ρ 5, ρ 6, ρ 7, ρ 8, ρ 9, ρ 10, ρ 11] (γ 0) 0 (ρ 9) (γ 1)
  refine Eq.symm ?_
  show fn84 [ρ 0] (γ 0) = _
  unfold fn84
  refine (zLet_eq (show _ = ρ 0 from rfl)).trans ?_
  refine (zLet_eq m1).trans ?_
  refine (zLet_eq m2).trans ?_
  refine (zLet_eq m3).trans ?_
  refine (zLet_eq m4).trans ?_
  refine (zLet_eq m5).trans ?_
  refine (zLet_eq m6).trans ?_
  refine (zLet_eq m7).trans ?_
  refine (zLet_eq m8).trans ?_
  refine (zLet_eq m9).trans ?_
  refine (zLet_eq m10).trans ?_
  refine (if_neg w_0).trans ?_
  refine (if_pos w_1).trans ?_
  refine (zLet_eq (show fn1 [0] (γ 0) = (0, 0, γ 1) from l0.symm)).trans ?_
  refine (zLet_eq (show _ = γ 1 from rfl)).trans ?_
  refine (if_neg w_2).trans ?_
  refine (if_neg w_3).trans ?_
  refine (if_neg w_4).trans ?_
  refine (if_neg w_5).trans ?_
  refine (if_neg w_6).trans ?_
  refine (if_neg w_7).trans ?_
  refine (if_pos w_8).trans ?_
  refine (zLet_eq m12).trans ?_
  refine (if_neg w_9).trans ?_
  rfl
set_option maxRecDepth 100000 in
theorem vn84_9 {S : Nat → zSpc} (hS1 : ∀ x g o v gz, S 1 x g o v gz → sn1 x g o v gz) {a : List Int} {g : rHp} : ∀ (ρ : Nat → Int) (γ : Nat → rHp), zO 12 S a g q84_9 ρ γ → zGl (fun _ _ _ => True) (sn84 a g) q84_9 ρ γ := by
  intro ρ γ h
  obtain ⟨ha, hg, hr, hf, hm, hc, hl⟩ := h
  have ha : a = [ρ 0, ρ 1, ρ 2, ρ 3, ρ 4, ρ 5, ρ 6, ρ 7, ρ 8, ρ 9, ρ 10, ρ 11] := ha
  subst ha
  subst hg
  obtain ⟨r0, -⟩ := hr
  have r0 : (6 : Int) ≤ ρ 0 ∧ ρ 0 ≤ 6 := r0
  obtain ⟨w_0, w_1, w_2, w_3, w_4, w_5, w_6, w_7, w_8, w_9⟩ : (¬ (ρ 0 < 0)) ∧ (ρ 0 ≤ 9) ∧ (¬ (ρ 0 = 9)) ∧ (¬ (ρ 0 = 0)) ∧ (¬ (ρ 0 = 1)) ∧ (¬ (ρ 0 = 2)) ∧ (¬ (ρ 0 = 3)) ∧ (¬ (ρ 0 = 4)) ∧ (¬ (ρ 0 = 5)) ∧ (ρ 0 = 6) := ⟨by omega, by omega, by omega, by omega, by omega, by omega, by omega, by omega, by omega, by omega⟩
  obtain ⟨-, m1, m2, m3, m4, m5, m6, m7, m8, m9, m10, -⟩ := hm
  have m1 : γ 0 15 0 3 = ρ 2 := m1
  have m2 : γ 0 15 0 4 = ρ 3 := m2
  have m3 : γ 0 15 0 8 = ρ 4 := m3
  have m4 : γ 0 15 0 13 = ρ 5 := m4
  have m5 : γ 0 15 0 17 = ρ 6 := m5
  have m6 : γ 0 15 0 32 = ρ 7 := m6
  have m7 : γ 0 15 0 61 = ρ 8 := m7
  have m8 : γ 0 15 0 71 = ρ 9 := m8
  have m9 : γ 0 15 0 74 = ρ 10 := m9
  have m10 : γ 0 15 0 75 = ρ 11 := m10
  obtain ⟨l0, -⟩ := hl
  have l0 : sn1 [0, ρ 1] (γ 0) 0 0 (γ 1) := hS1 _ _ _ _ _ l0
  show sn84 [ρ 0, ρ 1, ρ 2, ρ 3, ρ 4, ρ 5, ρ 6, ρ 7, ρ 8, ρ 9, ρ 10, ρ 11] (γ 0) 0 (ρ 10) (γ 1)
  refine Eq.symm ?_
  show fn84 [ρ 0] (γ 0) = _
  unfold fn84
  refine (zLet_eq (show _ = ρ 0 from rfl)).trans ?_
  refine (zLet_eq m1).trans ?_
  refine (zLet_eq m2).trans ?_
  refine (zLet_eq m3).trans ?_
  refine (zLet_eq m4).trans ?_
  refine (zLet_eq m5).trans ?_
  refine (zLet_eq m6).trans ?_
  refine (zLet_eq m7).trans ?_
  refine (zLet_eq m8).trans ?_
  refine (zLet_eq m9).trans ?_
  refine (zLet_eq m10).trans ?_
  refine (if_neg w_0).trans ?_
  refine (if_pos w_1).trans ?_
  refine (zLet_eq (show fn1 [0] (γ 0) = (0, 0, γ 1) from l0.symm)).trans ?_
  refine (zLet_eq (show _ = γ 1 from rfl)).trans ?_
  refine (if_neg w_2).trans ?_
  refine (if_neg w_3).trans ?_
  refine (if_neg w_4).trans ?_
  refine (if_neg w_5).trans ?_
  refine (if_neg w_6).trans ?_
  refine (if_neg w_7).trans ?_
  refine (if_neg w_8).trans ?_
  refine (if_pos w_9).trans ?_
  rfl
set_option maxRecDepth 100000 in
theorem vn84_10 {S : Nat → zSpc} (hS1 : ∀ x g o v gz, S 1 x g o v gz → sn1 x g o v gz) {a : List Int} {g : rHp} : ∀ (ρ : Nat → Int) (γ : Nat → rHp), zO 12 S a g q84_10 ρ γ → zGl (fun _ _ _ => True) (sn84 a g) q84_10 ρ γ := by
  intro ρ γ h
  obtain ⟨ha, hg, hr, hf, hm, hc, hl⟩ := h
  have ha : a = [ρ 0, ρ 1, ρ 2, ρ 3, ρ 4, ρ 5, ρ 6, ρ 7, ρ 8, ρ 9, ρ 10, ρ 11] := ha
  subst ha
  subst hg
  obtain ⟨r0, -⟩ := hr
  have r0 : (7 : Int) ≤ ρ 0 ∧ ρ 0 ≤ 7 := r0
  obtain ⟨w_0, w_1, w_2, w_3, w_4, w_5, w_6, w_7, w_8, w_9, w_10⟩ : (¬ (ρ 0 < 0)) ∧ (ρ 0 ≤ 9) ∧ (¬ (ρ 0 = 9)) ∧ (¬ (ρ 0 = 0)) ∧ (¬ (ρ 0 = 1)) ∧ (¬ (ρ 0 = 2)) ∧ (¬ (ρ 0 = 3)) ∧ (¬ (ρ 0 = 4)) ∧ (¬ (ρ 0 = 5)) ∧ (¬ (ρ 0 = 6)) ∧ (ρ 0 = 7) := ⟨by omega, by omega, by omega, by omega, by omega, by omega, by omega, by omega, by omega, by omega, by omega⟩
  obtain ⟨-, m1, m2, m3, m4, m5, m6, m7, m8, m9, m10, -⟩ := hm
  have m1 : γ 0 15 0 3 = ρ 2 := m1
  have m2 : γ 0 15 0 4 = ρ 3 := m2
  have m3 : γ 0 15 0 8 = ρ 4 := m3
  have m4 : γ 0 15 0 13 = ρ 5 := m4
  have m5 : γ 0 15 0 17 = ρ 6 := m5
  have m6 : γ 0 15 0 32 = ρ 7 := m6
  have m7 : γ 0 15 0 61 = ρ 8 := m7
  have m8 : γ 0 15 0 71 = ρ 9 := m8
  have m9 : γ 0 15 0 74 = ρ 10 := m9
  have m10 : γ 0 15 0 75 = ρ 11 := m10
  obtain ⟨l0, -⟩ := hl
  have l0 : sn1 [0, ρ 1] (γ 0) 0 0 (γ 1) := hS1 _ _ _ _ _ l0
  show sn84 [ρ 0, ρ 1, ρ 2, ρ 3, ρ 4, ρ 5, ρ 6, ρ 7, ρ 8, ρ 9, ρ 10, ρ 11] (γ 0) 0 (ρ 11) (γ 1)
  refine Eq.symm ?_
  show fn84 [ρ 0] (γ 0) = _
  unfold fn84
  refine (zLet_eq (show _ = ρ 0 from rfl)).trans ?_
  refine (zLet_eq m1).trans ?_
  refine (zLet_eq m2).trans ?_
  refine (zLet_eq m3).trans ?_
  refine (zLet_eq m4).trans ?_
  refine (zLet_eq m5).trans ?_
  refine (zLet_eq m6).trans ?_
  refine (zLet_eq m7).trans ?_
  refine (zLet_eq m8).trans ?_
  refine (zLet_eq m9).trans ?_
  refine (zLet_eq m10).trans ?_
  refine (if_neg w_0).trans ?_
  refine (if_pos w_1).trans ?_
  refine (zLet_eq (show fn1 [0] (γ 0) = (0, 0, γ 1) from l0.symm)).trans ?_
  refine (zLet_eq (show _ = γ 1 from rfl)).trans ?_
  refine (if_neg w_2).trans ?_
  refine (if_neg w_3).trans ?_
  refine (if_neg w_4).trans ?_
  refine (if_neg w_5).trans ?_
  refine (if_neg w_6).trans ?_
  refine (if_neg w_7).trans ?_
  refine (if_neg w_8).trans ?_
  refine (if_neg w_9).trans ?_
  refine (if_pos w_10).trans ?_
  rfl
set_option maxRecDepth 100000 in
theorem vn84_11 {S : Nat → zSpc} (hS1 : ∀ x g o v gz, S 1 x g o v gz → sn1 x g o v gz) {a : List Int} {g : rHp} : ∀ (ρ : Nat → Int) (γ : Nat → rHp), zO 12 S a g q84_11 ρ γ → zGl (fun _ _ _ => True) (sn84 a g) q84_11 ρ γ := by
  intro ρ γ h
  obtain ⟨ha, hg, hr, hf, hm, hc, hl⟩ := h
  have ha : a = [ρ 0, ρ 1, ρ 2, ρ 3, ρ 4, ρ 5, ρ 6, ρ 7, ρ 8, ρ 9, ρ 10, ρ 11] := ha
  subst ha
  subst hg
  obtain ⟨r0, -, -, -, -, -, -, -, -, -, -, -, r12, -⟩ := hr
  have r0 : (8 : Int) ≤ ρ 0 ∧ ρ 0 ≤ 8 := r0
  have r12 : (0 : Int) ≤ ρ 12 ∧ ρ 12 ≤ 0 := r12
  obtain ⟨w_0, w_1, w_2, w_3, w_4, w_5, w_6, w_7, w_8, w_9, w_10, w_11⟩ : (¬ (ρ 0 < 0)) ∧ (ρ 0 ≤ 9) ∧ (¬ (ρ 0 = 9)) ∧ (¬ (ρ 0 = 0)) ∧ (¬ (ρ 0 = 1)) ∧ (¬ (ρ 0 = 2)) ∧ (¬ (ρ 0 = 3)) ∧ (¬ (ρ 0 = 4)) ∧ (¬ (ρ 0 = 5)) ∧ (¬ (ρ 0 = 6)) ∧ (¬ (ρ 0 = 7)) ∧ (ρ 12 = 0) := ⟨by omega, by omega, by omega, by omega, by omega, by omega, by omega, by omega, by omega, by omega, by omega, by omega⟩
  obtain ⟨-, m1, m2, m3, m4, m5, m6, m7, m8, m9, m10, -, m12, -⟩ := hm
  have m1 : γ 0 15 0 3 = ρ 2 := m1
  have m2 : γ 0 15 0 4 = ρ 3 := m2
  have m3 : γ 0 15 0 8 = ρ 4 := m3
  have m4 : γ 0 15 0 13 = ρ 5 := m4
  have m5 : γ 0 15 0 17 = ρ 6 := m5
  have m6 : γ 0 15 0 32 = ρ 7 := m6
  have m7 : γ 0 15 0 61 = ρ 8 := m7
  have m8 : γ 0 15 0 71 = ρ 9 := m8
  have m9 : γ 0 15 0 74 = ρ 10 := m9
  have m10 : γ 0 15 0 75 = ρ 11 := m10
  have m12 : γ 0 15 0 59 = ρ 12 := m12
  obtain ⟨l0, -⟩ := hl
  have l0 : sn1 [0, ρ 1] (γ 0) 0 0 (γ 1) := hS1 _ _ _ _ _ l0
  show sn84 [ρ 0, ρ 1, ρ 2, ρ 3, ρ 4, ρ 5, ρ 6, ρ 7, ρ 8, ρ 9, ρ 10, ρ 11] (γ 0) 0 0 (γ 1)
  refine Eq.symm ?_
  show fn84 [ρ 0] (γ 0) = _
  unfold fn84
  refine (zLet_eq (show _ = ρ 0 from rfl)).trans ?_
  refine (zLet_eq m1).trans ?_
  refine (zLet_eq m2).trans ?_
  refine (zLet_eq m3).trans ?_
  refine (zLet_eq m4).trans ?_
  refine (zLet_eq m5).trans ?_
  refine (zLet_eq m6).trans ?_
  refine (zLet_eq m7).trans ?_
  refine (zLet_eq m8).trans ?_
  refine (zLet_eq m9).trans ?_
  refine (zLet_eq m10).trans ?_
  refine (if_neg w_0).trans ?_
  refine (if_pos w_1).trans ?_
  refine (zLet_eq (show fn1 [0] (γ 0) = (0, 0, γ 1) from l0.symm)).trans ?_
  refine (zLet_eq (show _ = γ 1 from rfl)).trans ?_
  refine (if_neg w_2).trans ?_
  refine (if_neg w_3).trans ?_
  refine (if_neg w_4).trans ?_
  refine (if_neg w_5).trans ?_
  refine (if_neg w_6).trans ?_
  refine (if_neg w_7).trans ?_
  refine (if_neg w_8).trans ?_
  refine (if_neg w_9).trans ?_
  refine (if_neg w_10).trans ?_
  refine (zLet_eq m12).trans ?_
  refine (if_pos w_11).trans ?_
  rfl
set_option maxRecDepth 100000 in
theorem vn84_12 {S : Nat → zSpc} (hS1 : ∀ x g o v gz, S 1 x g o v gz → sn1 x g o v gz) {a : List Int} {g : rHp} : ∀ (ρ : Nat → Int) (γ : Nat → rHp), zO 12 S a g q84_12 ρ γ → zGl (fun _ _ _ => True) (sn84 a g) q84_12 ρ γ := by
  intro ρ γ h
  obtain ⟨ha, hg, hr, hf, hm, hc, hl⟩ := h
  have ha : a = [ρ 0, ρ 1, ρ 2, ρ 3, ρ 4, ρ 5, ρ 6, ρ 7, ρ 8, ρ 9, ρ 10, ρ 11] := ha
  subst ha
  subst hg
  obtain ⟨r0, -, -, -, -, -, -, -, -, -, -, -, r12, -⟩ := hr
  have r0 : (8 : Int) ≤ ρ 0 ∧ ρ 0 ≤ 8 := r0
  have r12 : (1 : Int) ≤ ρ 12 ∧ ρ 12 ≤ 1 := r12
  obtain ⟨w_0, w_1, w_2, w_3, w_4, w_5, w_6, w_7, w_8, w_9, w_10, w_11⟩ : (¬ (ρ 0 < 0)) ∧ (ρ 0 ≤ 9) ∧ (¬ (ρ 0 = 9)) ∧ (¬ (ρ 0 = 0)) ∧ (¬ (ρ 0 = 1)) ∧ (¬ (ρ 0 = 2)) ∧ (¬ (ρ 0 = 3)) ∧ (¬ (ρ 0 = 4)) ∧ (¬ (ρ 0 = 5)) ∧ (¬ (ρ 0 = 6)) ∧ (¬ (ρ 0 = 7)) ∧ (¬ (ρ 12 = 0)) := ⟨by omega, by omega, by omega, by omega, by omega, by omega, by omega, by omega, by omega, by omega, by omega, by omega⟩
  obtain ⟨-, m1, m2, m3, m4, m5, m6, m7, m8, m9, m10, -, m12, -⟩ := hm
  have m1 : γ 0 15 0 3 = ρ 2 := m1
  have m2 : γ 0 15 0 4 = ρ 3 := m2
  have m3 : γ 0 15 0 8 = ρ 4 := m3
  have m4 : γ 0 15 0 13 = ρ 5 := m4
  have m5 : γ 0 15 0 17 = ρ 6 := m5
  have m6 : γ 0 15 0 32 = ρ 7 := m6
  have m7 : γ 0 15 0 61 = ρ 8 := m7
  have m8 : γ 0 15 0 71 = ρ 9 := m8
  have m9 : γ 0 15 0 74 = ρ 10 := m9
  have m10 : γ 0 15 0 75 = ρ 11 := m10
  have m12 : γ 0 15 0 59 = ρ 12 := m12
  obtain ⟨l0, -⟩ := hl
  have l0 : sn1 [0, ρ 1] (γ 0) 0 0 (γ 1) := hS1 _ _ _ _ _ l0
  show sn84 [ρ 0, ρ 1, ρ 2, ρ 3, ρ 4, ρ 5, ρ 6, ρ 7, ρ 8, ρ 9, ρ 10, ρ 11] (γ 0) 0 (ρ 8) (γ 1)
  refine Eq.symm ?_
  show fn84 [ρ 0] (γ 0) = _
  unfold fn84
  refine (zLet_eq (show _ = ρ 0 from rfl)).trans ?_
  refine (zLet_eq m1).trans ?_
  refine (zLet_eq m2).trans ?_
  refine (zLet_eq m3).trans ?_
  refine (zLet_eq m4).trans ?_
  refine (zLet_eq m5).trans ?_
  refine (zLet_eq m6).trans ?_
  refine (zLet_eq m7).trans ?_
  refine (zLet_eq m8).trans ?_
  refine (zLet_eq m9).trans ?_
  refine (zLet_eq m10).trans ?_
  refine (if_neg w_0).trans ?_
  refine (if_pos w_1).trans ?_
  refine (zLet_eq (show fn1 [0] (γ 0) = (0, 0, γ 1) from l0.symm)).trans ?_
  refine (zLet_eq (show _ = γ 1 from rfl)).trans ?_
  refine (if_neg w_2).trans ?_
  refine (if_neg w_3).trans ?_
  refine (if_neg w_4).trans ?_
  refine (if_neg w_5).trans ?_
  refine (if_neg w_6).trans ?_
  refine (if_neg w_7).trans ?_
  refine (if_neg w_8).trans ?_
  refine (if_neg w_9).trans ?_
  refine (if_neg w_10).trans ?_
  refine (zLet_eq m12).trans ?_
  refine (if_neg w_11).trans ?_
  rfl
set_option maxRecDepth 100000 in
theorem vn84_13 {S : Nat → zSpc} (hS1 : ∀ x g o v gz, S 1 x g o v gz → sn1 x g o v gz) {a : List Int} {g : rHp} : ∀ (ρ : Nat → Int) (γ : Nat → rHp), zO 12 S a g q84_13 ρ γ → zGl (fun _ _ _ => True) (sn84 a g) q84_13 ρ γ := by
  intro ρ γ h
  obtain ⟨ha, hg, hr, hf, hm, hc, hl⟩ := h
  have ha : a = [ρ 0, ρ 1, ρ 2, ρ 3, ρ 4, ρ 5, ρ 6, ρ 7, ρ 8, ρ 9, ρ 10, ρ 11] := ha
  subst ha
  subst hg
  obtain ⟨r0, -⟩ := hr
  have r0 : (10 : Int) ≤ ρ 0 ∧ ρ 0 ≤ 2147483647 := r0
  obtain ⟨w_0, w_1⟩ : (¬ (ρ 0 < 0)) ∧ (¬ (ρ 0 ≤ 9)) := ⟨by omega, by omega⟩
  obtain ⟨-, m1, m2, m3, m4, m5, m6, m7, m8, m9, m10, -⟩ := hm
  have m1 : γ 0 15 0 3 = ρ 2 := m1
  have m2 : γ 0 15 0 4 = ρ 3 := m2
  have m3 : γ 0 15 0 8 = ρ 4 := m3
  have m4 : γ 0 15 0 13 = ρ 5 := m4
  have m5 : γ 0 15 0 17 = ρ 6 := m5
  have m6 : γ 0 15 0 32 = ρ 7 := m6
  have m7 : γ 0 15 0 61 = ρ 8 := m7
  have m8 : γ 0 15 0 71 = ρ 9 := m8
  have m9 : γ 0 15 0 74 = ρ 10 := m9
  have m10 : γ 0 15 0 75 = ρ 11 := m10
  obtain ⟨l0, -⟩ := hl
  have l0 : sn1 [1, ρ 1] (γ 0) 0 1 (γ 1) := hS1 _ _ _ _ _ l0
  show sn84 [ρ 0, ρ 1, ρ 2, ρ 3, ρ 4, ρ 5, ρ 6, ρ 7, ρ 8, ρ 9, ρ 10, ρ 11] (γ 0) 0 0 (γ 1)
  refine Eq.symm ?_
  show fn84 [ρ 0] (γ 0) = _
  unfold fn84
  refine (zLet_eq (show _ = ρ 0 from rfl)).trans ?_
  refine (zLet_eq m1).trans ?_
  refine (zLet_eq m2).trans ?_
  refine (zLet_eq m3).trans ?_
  refine (zLet_eq m4).trans ?_
  refine (zLet_eq m5).trans ?_
  refine (zLet_eq m6).trans ?_
  refine (zLet_eq m7).trans ?_
  refine (zLet_eq m8).trans ?_
  refine (zLet_eq m9).trans ?_
  refine (zLet_eq m10).trans ?_
  refine (if_neg w_0).trans ?_
  refine (if_neg w_1).trans ?_
  refine (zLet_eq (show fn1 [1] (γ 0) = (0, 1, γ 1) from l0.symm)).trans ?_
  refine (zLet_eq (show _ = γ 1 from rfl)).trans ?_
  rfl
set_option maxRecDepth 100000 in
theorem yn84 {S : Nat → zSpc} (hS1 : ∀ x g o v gz, S 1 x g o v gz → sn1 x g o v gz) : ∀ x g o v gz, zSem uW uT w84_.2.2.2.1 w84_.2.2.1.1.length S q84 (fun i => q84a.getD i []) (zNA a84_) x g o v gz → sn84 x g o v gz := by
  intro a g o v gz h
  exact zSem_all (l0 := q84) (las := q84a) (S := S) (J := (fun _ _ _ => True)) (P := sn84 a g) (fun _ => (show zAll _ [q84_0, q84_1, q84_2, q84_3, q84_4, q84_5, q84_6, q84_7, q84_8, q84_9, q84_10, q84_11, q84_12, q84_13] from (zAll_c (vn84_0 hS1) (zAll_c (vn84_1 hS1) (zAll_c (vn84_2 hS1) (zAll_c (vn84_3 hS1) (zAll_c (vn84_4 hS1) (zAll_c (vn84_5 hS1) (zAll_c (vn84_6 hS1) (zAll_c (vn84_7 hS1) (zAll_c (vn84_8 hS1) (zAll_c (vn84_9 hS1) (zAll_c (vn84_10 hS1) (zAll_c (vn84_11 hS1) (zAll_c (vn84_12 hS1) (zAll_c (vn84_13 hS1) zAll_n)))))))))))))))) (fun _ => (show zAllI _ 0 [] from trivial)) h
set_option maxRecDepth 100000 in
theorem vn85_0 {S : Nat → zSpc} (hS1 : ∀ x g o v gz, S 1 x g o v gz → sn1 x g o v gz) (hS80 : ∀ x g o v gz, S 80 x g o v gz → sn80 x g o v gz) {a : List Int} {g : rHp} : ∀ (ρ : Nat → Int) (γ : Nat → rHp), zO 5 S a g q85_0 ρ γ → zGl (fun _ _ _ => True) (sn85 a g) q85_0 ρ γ := by
  intro ρ γ h
  obtain ⟨ha, hg, hr, hf, hm, hc, hl⟩ := h
  have ha : a = [ρ 0, ρ 1, ρ 2, ρ 3, ρ 4] := ha
  subst ha
  subst hg
  obtain ⟨r0, -⟩ := hr
  have r0 : ((-2147483648) : Int) ≤ ρ 0 ∧ ρ 0 ≤ (-1) := r0
  have w_0 : ρ 0 < 0 := by omega
  obtain ⟨-, m1, m2, -⟩ := hm
  have m1 : γ 0 15 0 93 = ρ 3 := m1
  have m2 : γ 0 15 0 95 = ρ 4 := m2
  obtain ⟨l0, -⟩ := hl
  have l0 : sn1 [1, ρ 2] (γ 0) 0 1 (γ 1) := hS1 _ _ _ _ _ l0
  show sn85 [ρ 0, ρ 1, ρ 2, ρ 3, ρ 4] (γ 0) 0 0 (γ 1)
  refine Eq.symm ?_
  show fn85 [ρ 0, ρ 1] (γ 0) = _
  unfold fn85
  refine (zLet_eq (show _ = ρ 0 from rfl)).trans ?_
  refine (zLet_eq (show _ = ρ 1 from rfl)).trans ?_
  refine (zLet_eq m1).trans ?_
  refine (zLet_eq m2).trans ?_
  refine (if_pos w_0).trans ?_
  refine (zLet_eq (show fn1 [1] (γ 0) = (0, 1, γ 1) from l0.symm)).trans ?_
  refine (zLet_eq (show _ = γ 1 from rfl)).trans ?_
  rfl
set_option maxRecDepth 100000 in
theorem vn85_1 {S : Nat → zSpc} (hS1 : ∀ x g o v gz, S 1 x g o v gz → sn1 x g o v gz) (hS80 : ∀ x g o v gz, S 80 x g o v gz → sn80 x g o v gz) {a : List Int} {g : rHp} : ∀ (ρ : Nat → Int) (γ : Nat → rHp), zO 5 S a g q85_1 ρ γ → zGl (fun _ _ _ => True) (sn85 a g) q85_1 ρ γ := by
  intro ρ γ h
  obtain ⟨ha, hg, hr, hf, hm, hc, hl⟩ := h
  have ha : a = [ρ 0, ρ 1, ρ 2, ρ 3, ρ 4] := ha
  subst ha
  subst hg
  obtain ⟨r0, -⟩ := hr
  have r0 : (0 : Int) ≤ ρ 0 ∧ ρ 0 ≤ 2147483647 := r0
  obtain ⟨f0, -⟩ := hf
  have f0 : (0 : Int) ≤ -ρ 3 + ρ 0 := f0
  obtain ⟨w_0, w_1⟩ : (¬ (ρ 0 < 0)) ∧ (ρ 0 ≥ ρ 3) := ⟨by omega, by omega⟩
  obtain ⟨-, m1, m2, -⟩ := hm
  have m1 : γ 0 15 0 93 = ρ 3 := m1
  have m2 : γ 0 15 0 95 = ρ 4 := m2
  obtain ⟨l0, -⟩ := hl
  have l0 : sn1 [1, ρ 2] (γ 0) 0 1 (γ 1) := hS1 _ _ _ _ _ l0
  show sn85 [ρ 0, ρ 1, ρ 2, ρ 3, ρ 4] (γ 0) 0 0 (γ 1)
  refine Eq.symm ?_
  show fn85 [ρ 0, ρ 1] (γ 0) = _
  unfold fn85
  refine (zLet_eq (show _ = ρ 0 from rfl)).trans ?_
  refine (zLet_eq (show _ = ρ 1 from rfl)).trans ?_
  refine (zLet_eq m1).trans ?_
  refine (zLet_eq m2).trans ?_
  refine (if_neg w_0).trans ?_
  refine (if_pos w_1).trans ?_
  refine (zLet_eq (show fn1 [1] (γ 0) = (0, 1, γ 1) from l0.symm)).trans ?_
  refine (zLet_eq (show _ = γ 1 from rfl)).trans ?_
  rfl
set_option maxRecDepth 100000 in
theorem vn85_2 {S : Nat → zSpc} (hS1 : ∀ x g o v gz, S 1 x g o v gz → sn1 x g o v gz) (hS80 : ∀ x g o v gz, S 80 x g o v gz → sn80 x g o v gz) {a : List Int} {g : rHp} : ∀ (ρ : Nat → Int) (γ : Nat → rHp), zO 5 S a g q85_2 ρ γ → zGl (fun _ _ _ => True) (sn85 a g) q85_2 ρ γ := by
  intro ρ γ h
  obtain ⟨ha, hg, hr, hf, hm, hc, hl⟩ := h
  have ha : a = [ρ 0, ρ 1, ρ 2, ρ 3, ρ 4] := ha
  subst ha
  subst hg
  obtain ⟨r0, -⟩ := hr
  have r0 : (100 : Int) ≤ ρ 0 ∧ ρ 0 ≤ 2147483647 := r0
  obtain ⟨f0, -⟩ := hf
  have f0 : (0 : Int) ≤ ρ 3 + -ρ 0 + (-1) := f0
  obtain ⟨w_0, w_1, w_2⟩ : (¬ (ρ 0 < 0)) ∧ (¬ (ρ 0 ≥ ρ 3)) ∧ (ρ 0 ≥ 100) := ⟨by omega, by omega, by omega⟩
  obtain ⟨-, m1, m2, -⟩ := hm
  have m1 : γ 0 15 0 93 = ρ 3 := m1
  have m2 : γ 0 15 0 95 = ρ 4 := m2
  obtain ⟨l0, -⟩ := hl
  have l0 : sn1 [1, ρ 2] (γ 0) 0 1 (γ 1) := hS1 _ _ _ _ _ l0
  show sn85 [ρ 0, ρ 1, ρ 2, ρ 3, ρ 4] (γ 0) 0 0 (γ 1)
  refine Eq.symm ?_
  show fn85 [ρ 0, ρ 1] (γ 0) = _
  unfold fn85
  refine (zLet_eq (show _ = ρ 0 from rfl)).trans ?_
  refine (zLet_eq (show _ = ρ 1 from rfl)).trans ?_
  refine (zLet_eq m1).trans ?_
  refine (zLet_eq m2).trans ?_
  refine (if_neg w_0).trans ?_
  refine (if_neg w_1).trans ?_
  refine (if_pos w_2).trans ?_
  refine (zLet_eq (show fn1 [1] (γ 0) = (0, 1, γ 1) from l0.symm)).trans ?_
  refine (zLet_eq (show _ = γ 1 from rfl)).trans ?_
  rfl
set_option maxRecDepth 100000 in
theorem vn85_3 {S : Nat → zSpc} (hS1 : ∀ x g o v gz, S 1 x g o v gz → sn1 x g o v gz) (hS80 : ∀ x g o v gz, S 80 x g o v gz → sn80 x g o v gz) {a : List Int} {g : rHp} : ∀ (ρ : Nat → Int) (γ : Nat → rHp), zO 5 S a g q85_3 ρ γ → zGl (fun _ _ _ => True) (sn85 a g) q85_3 ρ γ := by
  intro ρ γ h
  obtain ⟨ha, hg, hr, hf, hm, hc, hl⟩ := h
  have ha : a = [ρ 0, ρ 1, ρ 2, ρ 3, ρ 4] := ha
  subst ha
  subst hg
  obtain ⟨r0, r1, -⟩ := hr
  have r0 : (0 : Int) ≤ ρ 0 ∧ ρ 0 ≤ 99 := r0
  have r1 : ((-2147483648) : Int) ≤ ρ 1 ∧ ρ 1 ≤ (-1) := r1
  obtain ⟨f0, -⟩ := hf
  have f0 : (0 : Int) ≤ ρ 3 + -ρ 0 + (-1) := f0
  obtain ⟨w_0, w_1, w_2, w_3⟩ : (¬ (ρ 0 < 0)) ∧ (¬ (ρ 0 ≥ ρ 3)) ∧ (¬ (ρ 0 ≥ 100)) ∧ (ρ 1 < 0) := ⟨by omega, by omega, by omega, by omega⟩
  obtain ⟨-, m1, m2, -⟩ := hm
  have m1 : γ 0 15 0 93 = ρ 3 := m1
  have m2 : γ 0 15 0 95 = ρ 4 := m2
  obtain ⟨l0, -⟩ := hl
  have l0 : sn1 [1, ρ 2] (γ 0) 0 1 (γ 1) := hS1 _ _ _ _ _ l0
  show sn85 [ρ 0, ρ 1, ρ 2, ρ 3, ρ 4] (γ 0) 0 0 (γ 1)
  refine Eq.symm ?_
  show fn85 [ρ 0, ρ 1] (γ 0) = _
  unfold fn85
  refine (zLet_eq (show _ = ρ 0 from rfl)).trans ?_
  refine (zLet_eq (show _ = ρ 1 from rfl)).trans ?_
  refine (zLet_eq m1).trans ?_
  refine (zLet_eq m2).trans ?_
  refine (if_neg w_0).trans ?_
  refine (if_neg w_1).trans ?_
  refine (if_neg w_2).trans ?_
  refine (if_pos w_3).trans ?_
  refine (zLet_eq (show fn1 [1] (γ 0) = (0, 1, γ 1) from l0.symm)).trans ?_
  refine (zLet_eq (show _ = γ 1 from rfl)).trans ?_
  rfl
set_option maxRecDepth 100000 in
theorem vn85_4 {S : Nat → zSpc} (hS1 : ∀ x g o v gz, S 1 x g o v gz → sn1 x g o v gz) (hS80 : ∀ x g o v gz, S 80 x g o v gz → sn80 x g o v gz) {a : List Int} {g : rHp} : ∀ (ρ : Nat → Int) (γ : Nat → rHp), zO 5 S a g q85_4 ρ γ → zGl (fun _ _ _ => True) (sn85 a g) q85_4 ρ γ := by
  intro ρ γ h
  obtain ⟨ha, hg, hr, hf, hm, hc, hl⟩ := h
  have ha : a = [ρ 0, ρ 1, ρ 2, ρ 3, ρ 4] := ha
  subst ha
  subst hg
  obtain ⟨r0, r1, -⟩ := hr
  have r0 : (0 : Int) ≤ ρ 0 ∧ ρ 0 ≤ 99 := r0
  have r1 : (8 : Int) ≤ ρ 1 ∧ ρ 1 ≤ 2147483647 := r1
  obtain ⟨f0, -⟩ := hf
  have f0 : (0 : Int) ≤ ρ 3 + -ρ 0 + (-1) := f0
  obtain ⟨w_0, w_1, w_2, w_3, w_4⟩ : (¬ (ρ 0 < 0)) ∧ (¬ (ρ 0 ≥ ρ 3)) ∧ (¬ (ρ 0 ≥ 100)) ∧ (¬ (ρ 1 < 0)) ∧ (ρ 1 > 7) := ⟨by omega, by omega, by omega, by omega, by omega⟩
  obtain ⟨-, m1, m2, -⟩ := hm
  have m1 : γ 0 15 0 93 = ρ 3 := m1
  have m2 : γ 0 15 0 95 = ρ 4 := m2
  obtain ⟨l0, -⟩ := hl
  have l0 : sn1 [1, ρ 2] (γ 0) 0 1 (γ 1) := hS1 _ _ _ _ _ l0
  show sn85 [ρ 0, ρ 1, ρ 2, ρ 3, ρ 4] (γ 0) 0 0 (γ 1)
  refine Eq.symm ?_
  show fn85 [ρ 0, ρ 1] (γ 0) = _
  unfold fn85
  refine (zLet_eq (show _ = ρ 0 from rfl)).trans ?_
  refine (zLet_eq (show _ = ρ 1 from rfl)).trans ?_
  refine (zLet_eq m1).trans ?_
  refine (zLet_eq m2).trans ?_
  refine (if_neg w_0).trans ?_
  refine (if_neg w_1).trans ?_
  refine (if_neg w_2).trans ?_
  refine (if_neg w_3).trans ?_
  refine (if_pos w_4).trans ?_
  refine (zLet_eq (show fn1 [1] (γ 0) = (0, 1, γ 1) from l0.symm)).trans ?_
  refine (zLet_eq (show _ = γ 1 from rfl)).trans ?_
  rfl
set_option maxRecDepth 100000 in
theorem vn85_5 {S : Nat → zSpc} (hS1 : ∀ x g o v gz, S 1 x g o v gz → sn1 x g o v gz) (hS80 : ∀ x g o v gz, S 80 x g o v gz → sn80 x g o v gz) {a : List Int} {g : rHp} : ∀ (ρ : Nat → Int) (γ : Nat → rHp), zO 5 S a g q85_5 ρ γ → zGl (fun _ _ _ => True) (sn85 a g) q85_5 ρ γ := by
  intro ρ γ h
  obtain ⟨ha, hg, hr, hf, hm, hc, hl⟩ := h
  have ha : a = [ρ 0, ρ 1, ρ 2, ρ 3, ρ 4] := ha
  subst ha
  subst hg
  obtain ⟨r0, r1, -, -, -, -, r6, -⟩ := hr
  have r0 : (0 : Int) ≤ ρ 0 ∧ ρ 0 ≤ 99 := r0
  have r1 : (0 : Int) ≤ ρ 1 ∧ ρ 1 ≤ 7 := r1
  have r6 : (1 : Int) ≤ ρ 6 ∧ ρ 6 ≤ 1 := r6
  obtain ⟨f0, -⟩ := hf
  have f0 : (0 : Int) ≤ ρ 3 + -ρ 0 + (-1) := f0
  obtain ⟨w_0, w_1, w_2, w_3, w_4, w_5⟩ : (¬ (ρ 0 < 0)) ∧ (¬ (ρ 0 ≥ ρ 3)) ∧ (¬ (ρ 0 ≥ 100)) ∧ (¬ (ρ 1 < 0)) ∧ (¬ (ρ 1 > 7)) ∧ (ρ 6 ≠ 0) := ⟨by omega, by omega, by omega, by omega, by omega, by omega⟩
  obtain ⟨-, m1, m2, -, m4, -⟩ := hm
  have m1 : γ 0 15 0 93 = ρ 3 := m1
  have m2 : γ 0 15 0 95 = ρ 4 := m2
  have m4 : γ 0 110 0 (ρ 1 + 8 * ρ 0) = ρ 7 := m4
  obtain ⟨l0, l1, l2, l3, -⟩ := hl
  have l0 : zOpP (.ishr) (γ 0) (γ 1) [ρ 4, ρ 1] (ρ 5) := l0
  have l1 : zOpP (.iand) (γ 0) (γ 1) [ρ 5, 1] (ρ 6) := l1
  have l2 : sn1 [0, ρ 2] (γ 0) 0 0 (γ 1) := hS1 _ _ _ _ _ l2
  have l3 : sn80 [ρ 7] (γ 1) 0 (ρ 8) (γ 2) := hS80 _ _ _ _ _ l3
  show sn85 [ρ 0, ρ 1, ρ 2, ρ 3, ρ 4] (γ 0) 0 (ρ 8) (γ 2)
  refine Eq.symm ?_
  show fn85 [ρ 0, ρ 1] (γ 0) = _
  unfold fn85
  refine (zLet_eq (show _ = ρ 0 from rfl)).trans ?_
  refine (zLet_eq (show _ = ρ 1 from rfl)).trans ?_
  refine (zLet_eq m1).trans ?_
  refine (zLet_eq m2).trans ?_
  refine (if_neg w_0).trans ?_
  refine (if_neg w_1).trans ?_
  refine (if_neg w_2).trans ?_
  refine (if_neg w_3).trans ?_
  refine (if_neg w_4).trans ?_
  refine (zLet_eq (zF2_ok l0)).trans ?_
  refine (zLet_eq (zF2_ok l1)).trans ?_
  refine (if_pos w_5).trans ?_
  refine (zLet_eq (show fn1 [0] (γ 0) = (0, 0, γ 1) from l2.symm)).trans ?_
  refine (zLet_eq (show _ = γ 1 from rfl)).trans ?_
  refine (zLet_eq m4).trans ?_
  refine (zLet_eq (show fn80 [ρ 7] (γ 1) = (0, ρ 8, γ 2) from l3.symm)).trans ?_
  refine (zLet_eq (show _ = γ 2 from rfl)).trans ?_
  refine (zLet_eq (show _ = ρ 8 from rfl)).trans ?_
  rfl
set_option maxRecDepth 100000 in
theorem vn85_6 {S : Nat → zSpc} (hS1 : ∀ x g o v gz, S 1 x g o v gz → sn1 x g o v gz) (hS80 : ∀ x g o v gz, S 80 x g o v gz → sn80 x g o v gz) {a : List Int} {g : rHp} : ∀ (ρ : Nat → Int) (γ : Nat → rHp), zO 5 S a g q85_6 ρ γ → zGl (fun _ _ _ => True) (sn85 a g) q85_6 ρ γ := by
  intro ρ γ h
  obtain ⟨ha, hg, hr, hf, hm, hc, hl⟩ := h
  have ha : a = [ρ 0, ρ 1, ρ 2, ρ 3, ρ 4] := ha
  subst ha
  subst hg
  obtain ⟨r0, r1, -, -, -, -, r6, -⟩ := hr
  have r0 : (0 : Int) ≤ ρ 0 ∧ ρ 0 ≤ 99 := r0
  have r1 : (0 : Int) ≤ ρ 1 ∧ ρ 1 ≤ 7 := r1
  have r6 : (0 : Int) ≤ ρ 6 ∧ ρ 6 ≤ 0 := r6
  obtain ⟨f0, -⟩ := hf
  have f0 : (0 : Int) ≤ ρ 3 + -ρ 0 + (-1) := f0
  obtain ⟨w_0, w_1, w_2, w_3, w_4, w_5⟩ : (¬ (ρ 0 < 0)) ∧ (¬ (ρ 0 ≥ ρ 3)) ∧ (¬ (ρ 0 ≥ 100)) ∧ (¬ (ρ 1 < 0)) ∧ (¬ (ρ 1 > 7)) ∧ (¬ (ρ 6 ≠ 0)) := ⟨by omega, by omega, by omega, by omega, by omega, by omega⟩
  obtain ⟨-, m1, m2, -⟩ := hm
  have m1 : γ 0 15 0 93 = ρ 3 := m1
  have m2 : γ 0 15 0 95 = ρ 4 := m2
  obtain ⟨l0, l1, l2, -⟩ := hl
  have l0 : zOpP (.ishr) (γ 0) (γ 1) [ρ 4, ρ 1] (ρ 5) := l0
  have l1 : zOpP (.iand) (γ 0) (γ 1) [ρ 5, 1] (ρ 6) := l1
  have l2 : sn1 [1, ρ 2] (γ 0) 0 1 (γ 1) := hS1 _ _ _ _ _ l2
  show sn85 [ρ 0, ρ 1, ρ 2, ρ 3, ρ 4] (γ 0) 0 0 (γ 1)
  refine Eq.symm ?_
  show fn85 [ρ 0, ρ 1] (γ 0) = _
  unfold fn85
  refine (zLet_eq (show _ = ρ 0 from rfl)).trans ?_
  refine (zLet_eq (show _ = ρ 1 from rfl)).trans ?_
  refine (zLet_eq m1).trans ?_
  refine (zLet_eq m2).trans ?_
  refine (if_neg w_0).trans ?_
  refine (if_neg w_1).trans ?_
  refine (if_neg w_2).trans ?_
  refine (if_neg w_3).trans ?_
  refine (if_neg w_4).trans ?_
  refine (zLet_eq (zF2_ok l0)).trans ?_
  refine (zLet_eq (zF2_ok l1)).trans ?_
  refine (if_neg w_5).trans ?_
  refine (zLet_eq (show fn1 [1] (γ 0) = (0, 1, γ 1) from l2.symm)).trans ?_
  refine (zLet_eq (show _ = γ 1 from rfl)).trans ?_
  rfl
set_option maxRecDepth 100000 in
theorem yn85 {S : Nat → zSpc} (hS1 : ∀ x g o v gz, S 1 x g o v gz → sn1 x g o v gz) (hS80 : ∀ x g o v gz, S 80 x g o v gz → sn80 x g o v gz) : ∀ x g o v gz, zSem uW uT w85_.2.2.2.1 w85_.2.2.1.1.length S q85 (fun i => q85a.getD i []) (zNA a85_) x g o v gz → sn85 x g o v gz := by
  intro a g o v gz h
  exact zSem_all (l0 := q85) (las := q85a) (S := S) (J := (fun _ _ _ => True)) (P := sn85 a g) (fun _ => (show zAll _ [q85_0, q85_1, q85_2, q85_3, q85_4, q85_5, q85_6] from (zAll_c (vn85_0 hS1 hS80) (zAll_c (vn85_1 hS1 hS80) (zAll_c (vn85_2 hS1 hS80) (zAll_c (vn85_3 hS1 hS80) (zAll_c (vn85_4 hS1 hS80) (zAll_c (vn85_5 hS1 hS80) (zAll_c (vn85_6 hS1 hS80) zAll_n))))))))) (fun _ => (show zAllI _ 0 [] from trivial)) h
set_option maxRecDepth 100000 in
theorem vn86_0 {S : Nat → zSpc} (hS1 : ∀ x g o v gz, S 1 x g o v gz → sn1 x g o v gz) {a : List Int} {g : rHp} : ∀ (ρ : Nat → Int) (γ : Nat → rHp), zO 3 S a g q86_0 ρ γ → zGl (fun i vs g1 => jn86 a g i vs g1) (sn86 a g) q86_0 ρ γ := by
  intro ρ γ h
  obtain ⟨ha, hg, hr, hf, hm, hc, hl⟩ := h
  have ha : a = [ρ 0, ρ 1, ρ 2] := ha
  subst ha
  subst hg
  obtain ⟨r0, -⟩ := hr
  have r0 : ((-2147483648) : Int) ≤ ρ 0 ∧ ρ 0 ≤ (-1) := r0
  have w_0 : ρ 0 < 0 := by omega
  obtain ⟨-, m1, -⟩ := hm
  have m1 : γ 0 15 0 4 = ρ 2 := m1
  obtain ⟨l0, -⟩ := hl
  have l0 : sn1 [1, ρ 1] (γ 0) 0 1 (γ 1) := hS1 _ _ _ _ _ l0
  show sn86 [ρ 0, ρ 1, ρ 2] (γ 0) 0 0 (γ 1)
  have hD : dn86 [ρ 0] (γ 0) = .inr (0, 0, γ 1) := by
    unfold dn86
    refine (zLet_eq (show _ = ρ 0 from rfl)).trans ?_
    refine (zLet_eq m1).trans ?_
    refine (if_pos w_0).trans ?_
    refine (zLet_eq (show fn1 [1] (γ 0) = (0, 1, γ 1) from l0.symm)).trans ?_
    refine (zLet_eq (show _ = γ 1 from rfl)).trans ?_
    rfl
  exact zGoo_end hD
set_option maxRecDepth 100000 in
theorem vn86_1 {S : Nat → zSpc} (hS1 : ∀ x g o v gz, S 1 x g o v gz → sn1 x g o v gz) {a : List Int} {g : rHp} : ∀ (ρ : Nat → Int) (γ : Nat → rHp), zO 3 S a g q86_1 ρ γ → zGl (fun i vs g1 => jn86 a g i vs g1) (sn86 a g) q86_1 ρ γ := by
  intro ρ γ h
  obtain ⟨ha, hg, hr, hf, hm, hc, hl⟩ := h
  have ha : a = [ρ 0, ρ 1, ρ 2] := ha
  subst ha
  subst hg
  obtain ⟨r0, -⟩ := hr
  have r0 : (0 : Int) ≤ ρ 0 ∧ ρ 0 ≤ 2147483647 := r0
  obtain ⟨f0, -⟩ := hf
  have f0 : (0 : Int) ≤ ρ 2 + -ρ 0 + (-1) := f0
  obtain ⟨w_0, w_1⟩ : (¬ (ρ 0 < 0)) ∧ (ρ 0 < ρ 2) := ⟨by omega, by omega⟩
  obtain ⟨-, m1, -⟩ := hm
  have m1 : γ 0 15 0 4 = ρ 2 := m1
  obtain ⟨l0, -⟩ := hl
  have l0 : sn1 [0, ρ 1] (γ 0) 0 0 (γ 1) := hS1 _ _ _ _ _ l0
  show jn86 [ρ 0, ρ 1, ρ 2] (γ 0) 0 [ρ 0, ρ 1, ρ 2, ρ 0, 0, 0] (γ 1)
  have hD : dn86 [ρ 0] (γ 0) = .inl (0, [ρ 0, ρ 0, 0], γ 1) := by
    unfold dn86
    refine (zLet_eq (show _ = ρ 0 from rfl)).trans ?_
    refine (zLet_eq m1).trans ?_
    refine (if_neg w_0).trans ?_
    refine (if_pos w_1).trans ?_
    refine (zLet_eq (show fn1 [0] (γ 0) = (0, 0, γ 1) from l0.symm)).trans ?_
    refine (zLet_eq (show _ = γ 1 from rfl)).trans ?_
    rfl
  exact zGoo_to hD
set_option maxRecDepth 100000 in
theorem vn86_2 {S : Nat → zSpc} (hS1 : ∀ x g o v gz, S 1 x g o v gz → sn1 x g o v gz) {a : List Int} {g : rHp} : ∀ (ρ : Nat → Int) (γ : Nat → rHp), zO 3 S a g q86_2 ρ γ → zGl (fun i vs g1 => jn86 a g i vs g1) (sn86 a g) q86_2 ρ γ := by
  intro ρ γ h
  obtain ⟨ha, hg, hr, hf, hm, hc, hl⟩ := h
  have ha : a = [ρ 0, ρ 1, ρ 2] := ha
  subst ha
  subst hg
  obtain ⟨r0, -⟩ := hr
  have r0 : (0 : Int) ≤ ρ 0 ∧ ρ 0 ≤ 2147483647 := r0
  obtain ⟨f0, -⟩ := hf
  have f0 : (0 : Int) ≤ -ρ 2 + ρ 0 := f0
  obtain ⟨w_0, w_1⟩ : (¬ (ρ 0 < 0)) ∧ (¬ (ρ 0 < ρ 2)) := ⟨by omega, by omega⟩
  obtain ⟨-, m1, -⟩ := hm
  have m1 : γ 0 15 0 4 = ρ 2 := m1
  obtain ⟨l0, -⟩ := hl
  have l0 : sn1 [1, ρ 1] (γ 0) 0 1 (γ 1) := hS1 _ _ _ _ _ l0
  show sn86 [ρ 0, ρ 1, ρ 2] (γ 0) 0 0 (γ 1)
  have hD : dn86 [ρ 0] (γ 0) = .inr (0, 0, γ 1) := by
    unfold dn86
    refine (zLet_eq (show _ = ρ 0 from rfl)).trans ?_
    refine (zLet_eq m1).trans ?_
    refine (if_neg w_0).trans ?_
    refine (if_neg w_1).trans ?_
    refine (zLet_eq (show fn1 [1] (γ 0) = (0, 1, γ 1) from l0.symm)).trans ?_
    refine (zLet_eq (show _ = γ 1 from rfl)).trans ?_
    rfl
  exact zGoo_end hD
set_option maxRecDepth 100000 in
theorem vn86a0_0 {S : Nat → zSpc} (hS1 : ∀ x g o v gz, S 1 x g o v gz → sn1 x g o v gz) {a : List Int} {g : rHp} : ∀ (ρ : Nat → Int) (γ : Nat → rHp), jn86 a g 0 (zAg (zNA a86_ 0) ρ) (γ 1) → zO 3 S a g q86a0_0 ρ γ → zGl (fun i vs g1 => jn86 a g i vs g1) (sn86 a g) q86a0_0 ρ γ := by
  intro ρ γ hJ h
  obtain ⟨ha, hg, hr, hf, hm, hc, hl⟩ := h
  have ha : a = [ρ 0, ρ 1, ρ 2] := ha
  subst ha
  subst hg
  have hJ : jn86 [ρ 0, ρ 1, ρ 2] (γ 0) 0 [ρ 0, ρ 1, ρ 2, ρ 3, ρ 4, ρ 5] (γ 1) := hJ
  obtain ⟨f0, -⟩ := hf
  have f0 : (0 : Int) ≤ ρ 3 + -ρ 0 + (-8) := f0
  have w_0 : ρ 3 ≥ ρ 0 + 8 := by omega
  obtain ⟨-, m1, -⟩ := hm
  have m1 : γ 0 15 0 4 = ρ 2 := m1
  show sn86 [ρ 0, ρ 1, ρ 2] (γ 0) 0 (ρ 4) (γ 1)
  have hD : en86 (γ 0) (0, [ρ 0, ρ 3, ρ 4], γ 1) = .inr (0, ρ 4, γ 1) := by
    unfold en86
    refine (if_pos (show (0 : Nat) = 0 by decide)).trans ?_
    refine (zLet_eq (show _ = γ 1 from rfl)).trans ?_
    refine (zLet_eq (show _ = ρ 0 from rfl)).trans ?_
    refine (zLet_eq (show _ = ρ 3 from rfl)).trans ?_
    refine (zLet_eq (show _ = ρ 4 from rfl)).trans ?_
    refine (zLet_eq m1).trans ?_
    refine (if_pos w_0).trans ?_
    rfl
  exact zGoo_aend hJ hD
set_option maxRecDepth 100000 in
theorem vn86a0_1 {S : Nat → zSpc} (hS1 : ∀ x g o v gz, S 1 x g o v gz → sn1 x g o v gz) {a : List Int} {g : rHp} : ∀ (ρ : Nat → Int) (γ : Nat → rHp), jn86 a g 0 (zAg (zNA a86_ 0) ρ) (γ 1) → zO 3 S a g q86a0_1 ρ γ → zGl (fun i vs g1 => jn86 a g i vs g1) (sn86 a g) q86a0_1 ρ γ := by
  intro ρ γ hJ h
  obtain ⟨ha, hg, hr, hf, hm, hc, hl⟩ := h
  have ha : a = [ρ 0, ρ 1, ρ 2] := ha
  subst ha
  subst hg
  have hJ : jn86 [ρ 0, ρ 1, ρ 2] (γ 0) 0 [ρ 0, ρ 1, ρ 2, ρ 3, ρ 4, ρ 5] (γ 1) := hJ
  obtain ⟨f0, f1, -⟩ := hf
  have f0 : (0 : Int) ≤ ρ 3 + -ρ 2 := f0
  have f1 : (0 : Int) ≤ -ρ 3 + ρ 0 + 7 := f1
  obtain ⟨w_0, w_1⟩ : (¬ (ρ 3 ≥ ρ 0 + 8)) ∧ (ρ 3 ≥ ρ 2) := ⟨by omega, by omega⟩
  obtain ⟨-, m1, -⟩ := hm
  have m1 : γ 0 15 0 4 = ρ 2 := m1
  obtain ⟨l0, l1, -⟩ := hl
  have l0 : zOpP (.lshl) (γ 0) (γ 1) [ρ 4, 8] (ρ 6) := l0
  have l1 : zOpP (.lor) (γ 0) (γ 1) [ρ 6, 0] (ρ 7) := l1
  show jn86 [ρ 0, ρ 1, ρ 2] (γ 0) 0 [ρ 0, ρ 1, ρ 2, ρ 3 + 1, ρ 7, ρ 5] (γ 1)
  have hD : en86 (γ 0) (0, [ρ 0, ρ 3, ρ 4], γ 1) = .inl (0, [ρ 0, ρ 3 + 1, ρ 7], γ 1) := by
    unfold en86
    refine (if_pos (show (0 : Nat) = 0 by decide)).trans ?_
    refine (zLet_eq (show _ = γ 1 from rfl)).trans ?_
    refine (zLet_eq (show _ = ρ 0 from rfl)).trans ?_
    refine (zLet_eq (show _ = ρ 3 from rfl)).trans ?_
    refine (zLet_eq (show _ = ρ 4 from rfl)).trans ?_
    refine (zLet_eq m1).trans ?_
    refine (if_neg w_0).trans ?_
    refine (zLet_eq (zF2_ok l0)).trans ?_
    refine (if_pos w_1).trans ?_
    refine (zLet_eq (zF2_ok l1)).trans ?_
    rfl
  exact zGoo_ato hJ hD
set_option maxRecDepth 100000 in
theorem vn86a0_2 {S : Nat → zSpc} (hS1 : ∀ x g o v gz, S 1 x g o v gz → sn1 x g o v gz) {a : List Int} {g : rHp} : ∀ (ρ : Nat → Int) (γ : Nat → rHp), jn86 a g 0 (zAg (zNA a86_ 0) ρ) (γ 1) → zO 3 S a g q86a0_2 ρ γ → zGl (fun i vs g1 => jn86 a g i vs g1) (sn86 a g) q86a0_2 ρ γ := by
  intro ρ γ hJ h
  obtain ⟨ha, hg, hr, hf, hm, hc, hl⟩ := h
  have ha : a = [ρ 0, ρ 1, ρ 2] := ha
  subst ha
  subst hg
  have hJ : jn86 [ρ 0, ρ 1, ρ 2] (γ 0) 0 [ρ 0, ρ 1, ρ 2, ρ 3, ρ 4, ρ 5] (γ 1) := hJ
  obtain ⟨f0, f1, -⟩ := hf
  have f0 : (0 : Int) ≤ -ρ 3 + ρ 2 + (-1) := f0
  have f1 : (0 : Int) ≤ -ρ 3 + ρ 0 + 7 := f1
  obtain ⟨w_0, w_1⟩ : (¬ (ρ 3 ≥ ρ 0 + 8)) ∧ (¬ (ρ 3 ≥ ρ 2)) := ⟨by omega, by omega⟩
  obtain ⟨-, m1, -, m3, -⟩ := hm
  have m1 : γ 0 15 0 4 = ρ 2 := m1
  have m3 : γ 0 60 0 (ρ 3) = ρ 7 := m3
  obtain ⟨l0, l1, l2, -⟩ := hl
  have l0 : zOpP (.lshl) (γ 0) (γ 1) [ρ 4, 8] (ρ 6) := l0
  have l1 : zOpP (.land) (γ 0) (γ 1) [ρ 7, 255] (ρ 8) := l1
  have l2 : zOpP (.lor) (γ 0) (γ 1) [ρ 6, ρ 8] (ρ 9) := l2
  show jn86 [ρ 0, ρ 1, ρ 2] (γ 0) 0 [ρ 0, ρ 1, ρ 2, ρ 3 + 1, ρ 9, ρ 5] (γ 1)
  have hD : en86 (γ 0) (0, [ρ 0, ρ 3, ρ 4], γ 1) = .inl (0, [ρ 0, ρ 3 + 1, ρ 9], γ 1) := by
    unfold en86
    refine (if_pos (show (0 : Nat) = 0 by decide)).trans ?_
    refine (zLet_eq (show _ = γ 1 from rfl)).trans ?_
    refine (zLet_eq (show _ = ρ 0 from rfl)).trans ?_
    refine (zLet_eq (show _ = ρ 3 from rfl)).trans ?_
    refine (zLet_eq (show _ = ρ 4 from rfl)).trans ?_
    refine (zLet_eq m1).trans ?_
    refine (if_neg w_0).trans ?_
    refine (zLet_eq (zF2_ok l0)).trans ?_
    refine (if_neg w_1).trans ?_
    refine (zLet_eq m3).trans ?_
    refine (zLet_eq (zF2_ok l1)).trans ?_
    refine (zLet_eq (zF2_ok l2)).trans ?_
    rfl
  exact zGoo_ato hJ hD
set_option maxRecDepth 100000 in
theorem yn86 {S : Nat → zSpc} (hS1 : ∀ x g o v gz, S 1 x g o v gz → sn1 x g o v gz) : ∀ x g o v gz, zSem uW uT w86_.2.2.2.1 w86_.2.2.1.1.length S q86 (fun i => q86a.getD i []) (zNA a86_) x g o v gz → sn86 x g o v gz := by
  intro a g o v gz h
  exact zSem_all (l0 := q86) (las := q86a) (S := S) (J := (fun i vs g1 => jn86 a g i vs g1)) (P := sn86 a g) (fun _ => (show zAll _ [q86_0, q86_1, q86_2] from (zAll_c (vn86_0 hS1) (zAll_c (vn86_1 hS1) (zAll_c (vn86_2 hS1) zAll_n))))) (fun _ => (show zAllI _ 0 [q86a0] from ⟨(show zAll _ [q86a0_0, q86a0_1, q86a0_2] from (zAll_c (vn86a0_0 hS1) (zAll_c (vn86a0_1 hS1) (zAll_c (vn86a0_2 hS1) zAll_n)))), trivial⟩)) h
set_option maxRecDepth 100000 in
theorem vn87_0 {S : Nat → zSpc}  {a : List Int} {g : rHp} : ∀ (ρ : Nat → Int) (γ : Nat → rHp), zO 2 S a g q87_0 ρ γ → zGl (fun _ _ _ => True) (sn87 a g) q87_0 ρ γ := by
  intro ρ γ h
  obtain ⟨ha, hg, hr, hf, hm, hc, hl⟩ := h
  have ha : a = [ρ 0, ρ 1] := ha
  subst ha
  subst hg
  obtain ⟨m0, -⟩ := hm
  have m0 : γ 0 15 0 4 = ρ 1 := m0
  obtain ⟨⟨-, c1⟩, c2⟩ := hc
  have c1 : γ 1 = rUp (γ 0) 60 0 (ρ 1) (ρ 2) := c1
  have c2 : γ 2 = rUp (γ 1) 15 0 4 (ρ 1 + 1) := c2
  obtain ⟨l0, -⟩ := hl
  have l0 : zOpP (.i2b) (γ 0) (γ 1) [ρ 0] (ρ 2) := l0
  show sn87 [ρ 0, ρ 1] (γ 0) 0 0 (γ 2)
  refine Eq.symm ?_
  show fn87 [ρ 0] (γ 0) = _
  unfold fn87
  refine (zLet_eq (show _ = ρ 0 from rfl)).trans ?_
  refine (zLet_eq m0).trans ?_
  refine (zLet_eq (zF1_ok l0)).trans ?_
  refine (zLet_eq c1.symm).trans ?_
  refine (zLet_eq c2.symm).trans ?_
  rfl
set_option maxRecDepth 100000 in
theorem yn87 {S : Nat → zSpc}  : ∀ x g o v gz, zSem uW uT w87_.2.2.2.1 w87_.2.2.1.1.length S q87 (fun i => q87a.getD i []) (zNA a87_) x g o v gz → sn87 x g o v gz := by
  intro a g o v gz h
  exact zSem_all (l0 := q87) (las := q87a) (S := S) (J := (fun _ _ _ => True)) (P := sn87 a g) (fun _ => (show zAll _ [q87_0] from (zAll_c (vn87_0 ) zAll_n))) (fun _ => (show zAllI _ 0 [] from trivial)) h
