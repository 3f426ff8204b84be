/-! ===== the runs are the functions ===== -/
set_option maxRecDepth 100000 in
theorem vn66_0 {S : Nat → zSpc}  {a : List Int} {g : rHp} : ∀ (ρ : Nat → Int) (γ : Nat → rHp), zO 1 S a g q66_0 ρ γ → zGl (fun _ _ _ => True) (sn66 a g) q66_0 ρ γ := by
  intro ρ γ h
  obtain ⟨ha, hg, hr, hf, hm, hc, hl⟩ := h
  have ha : a = [ρ 0] := ha
  subst ha
  subst hg
  have r0 : (100 : Int) ≤ ρ 0 ∧ ρ 0 ≤ 50000 := zRnA hr 0
  have w_0 : ρ 0 ≥ 100 := by omega
  have m0 : γ 0 15 0 94 = ρ 0 := zAllA hm 0
  have c1 : γ 1 = rUp (γ 0) 15 0 94 (ρ 0 + 1) := And.right (zChA hc 0)
  show sn66 [ρ 0] (γ 0) 0 0 (γ 1)
  refine Eq.symm ?_
  show fn66 [] (γ 0) = _
  unfold fn66
  refine zLE m0 (zIP w_0 (zLE c1.symm ?_))
  rfl
set_option maxRecDepth 100000 in
theorem vn66_1 {S : Nat → zSpc}  {a : List Int} {g : rHp} : ∀ (ρ : Nat → Int) (γ : Nat → rHp), zO 1 S a g q66_1 ρ γ → zGl (fun _ _ _ => True) (sn66 a g) q66_1 ρ γ := by
  intro ρ γ h
  obtain ⟨ha, hg, hr, hf, hm, hc, hl⟩ := h
  have ha : a = [ρ 0] := ha
  subst ha
  subst hg
  have r0 : (0 : Int) ≤ ρ 0 ∧ ρ 0 ≤ 99 := zRnA hr 0
  have w_0 : ¬ (ρ 0 ≥ 100) := by omega
  have m0 : γ 0 15 0 94 = ρ 0 := zAllA hm 0
  have m1 : γ 0 103 0 0 = ρ 1 := zAllA hm 1
  have m2 : γ 0 103 0 1 = ρ 2 := zAllA hm 2
  have m3 : γ 0 103 0 2 = ρ 3 := zAllA hm 3
  have m4 : γ 0 103 0 3 = ρ 4 := zAllA hm 4
  have m5 : γ 0 103 0 4 = ρ 5 := zAllA hm 5
  have m6 : γ 0 103 0 5 = ρ 6 := zAllA hm 6
  have m7 : γ 0 103 0 6 = ρ 7 := zAllA hm 7
  have m8 : γ 0 103 0 7 = ρ 8 := zAllA hm 8
  have c1 : γ 1 = rUp (γ 0) 111 0 (8 * ρ 0) (ρ 1) := And.right (zChA hc 8)
  have c2 : γ 2 = rUp (γ 1) 111 0 (8 * ρ 0 + 1) (ρ 2) := And.right (zChA hc 7)
  have c3 : γ 3 = rUp (γ 2) 111 0 (8 * ρ 0 + 2) (ρ 3) := And.right (zChA hc 6)
  have c4 : γ 4 = rUp (γ 3) 111 0 (8 * ρ 0 + 3) (ρ 4) := And.right (zChA hc 5)
  have c5 : γ 5 = rUp (γ 4) 111 0 (8 * ρ 0 + 4) (ρ 5) := And.right (zChA hc 4)
  have c6 : γ 6 = rUp (γ 5) 111 0 (8 * ρ 0 + 5) (ρ 6) := And.right (zChA hc 3)
  have c7 : γ 7 = rUp (γ 6) 111 0 (8 * ρ 0 + 6) (ρ 7) := And.right (zChA hc 2)
  have c8 : γ 8 = rUp (γ 7) 111 0 (8 * ρ 0 + 7) (ρ 8) := And.right (zChA hc 1)
  have c9 : γ 9 = rUp (γ 8) 15 0 94 (ρ 0 + 1) := And.right (zChA hc 0)
  show sn66 [ρ 0] (γ 0) 0 0 (γ 9)
  refine Eq.symm ?_
  show fn66 [] (γ 0) = _
  unfold fn66
  refine zLE m0 (zIN w_0 (zLE m1 (zLE c1.symm (zLE m2 (zLE c2.symm (zLE m3 (zLE c3.symm ?_)))))))
  refine zLE m4 (zLE c4.symm (zLE m5 (zLE c5.symm (zLE m6 (zLE c6.symm (zLE m7 (zLE c7.symm ?_)))))))
  refine zLE m8 (zLE c8.symm (zLE c9.symm ?_))
  rfl
set_option maxRecDepth 100000 in
theorem yn66 {S : Nat → zSpc}  : ∀ x g o v gz, zSem uW uT w66_.2.2.2.1 w66_.2.2.1.1.length S q66 (fun i => q66a.getD i []) (zNA a66_) x g o v gz → sn66 x g o v gz := by
  intro a g o v gz h
  exact zSem_all (l0 := q66) (las := q66a) (S := S) (J := (fun _ _ _ => True)) (P := sn66 a g) (fun _ => (show zAll _ [q66_0, q66_1] from (zAll_c (vn66_0 ) (zAll_c (vn66_1 ) zAll_n)))) (fun _ => (show zAllI _ 0 [] from trivial)) h
set_option maxRecDepth 100000 in
theorem vn74_0 {S : Nat → zSpc} (hS62 : zIm S 62 sn62) (hS63 : zIm S 63 sn63) (hS64 : zIm S 64 sn64) (hS65 : zIm S 65 sn65) (hS66 : zIm S 66 sn66) {a : List Int} {g : rHp} : ∀ (ρ : Nat → Int) (γ : Nat → rHp), zO 9 S a g q74_0 ρ γ → zGl (fun i vs g1 => jn74 a g i vs g1) (sn74 a g) q74_0 ρ γ := by
  intro ρ γ h
  obtain ⟨ha, hg, hr, hf, hm, hc, hl⟩ := h
  have ha : a = [ρ 0, ρ 1, ρ 2, ρ 3, ρ 4, ρ 5, ρ 6, ρ 7, ρ 8] := ha
  subst ha
  subst hg
  show jn74 [ρ 0, ρ 1, ρ 2, ρ 3, ρ 4, ρ 5, ρ 6, ρ 7, ρ 8] (γ 0) 0 [ρ 0, ρ 1, ρ 2, ρ 3, ρ 4, ρ 5, ρ 6, ρ 7, ρ 8, 0, ρ 1, ρ 2, ρ 3] (γ 0)
  have hD : dn74 [] (γ 0) = .inl (0, [0], γ 0) := by
    unfold dn74
    rfl
  exact zGoo_to hD
set_option maxRecDepth 100000 in
theorem vn74a0_0 {S : Nat → zSpc} (hS62 : zIm S 62 sn62) (hS63 : zIm S 63 sn63) (hS64 : zIm S 64 sn64) (hS65 : zIm S 65 sn65) (hS66 : zIm S 66 sn66) {a : List Int} {g : rHp} : ∀ (ρ : Nat → Int) (γ : Nat → rHp), jn74 a g 0 (zAg (zNA a74_ 0) ρ) (γ 1) → zO 9 S a g q74a0_0 ρ γ → zGl (fun i vs g1 => jn74 a g i vs g1) (sn74 a g) q74a0_0 ρ γ := by
  intro ρ γ hJ h
  obtain ⟨ha, hg, hr, hf, hm, hc, hl⟩ := h
  have ha : a = [ρ 0, ρ 1, ρ 2, ρ 3, ρ 4, ρ 5, ρ 6, ρ 7, ρ 8] := ha
  subst ha
  subst hg
  have hJ : jn74 [ρ 0, ρ 1, ρ 2, ρ 3, ρ 4, ρ 5, ρ 6, ρ 7, ρ 8] (γ 0) 0 [ρ 0, ρ 1, ρ 2, ρ 3, ρ 4, ρ 5, ρ 6, ρ 7, ρ 8, ρ 9, ρ 10, ρ 11, ρ 12] (γ 1) := hJ
  have r11 : (1 : Int) ≤ ρ 11 ∧ ρ 11 ≤ 3 := zRnA hr 11
  have w_0 : ρ 11 ≠ 0 := by omega
  have m0 : γ 0 73 0 61 = ρ 0 := zAllA hm 0
  have m9 : γ 1 15 0 72 = ρ 10 := zAllA hm 9
  have m10 : γ 1 15 0 77 = ρ 11 := zAllA hm 10
  show sn74 [ρ 0, ρ 1, ρ 2, ρ 3, ρ 4, ρ 5, ρ 6, ρ 7, ρ 8] (γ 0) 0 0 (γ 1)
  have hD : en74 (γ 0) (0, [ρ 9], γ 1) = .inr (0, 0, γ 1) := by
    unfold en74
    refine zIP (show (0 : Nat) = 0 by decide) (zLV (γ 1) rfl (zLV (ρ 9) rfl (zLE m0 (zLE m9 (zLE m10 (zIP w_0 ?_))))))
    rfl
  exact zGoo_aend hJ hD
set_option maxRecDepth 100000 in
theorem vn74a0_1 {S : Nat → zSpc} (hS62 : zIm S 62 sn62) (hS63 : zIm S 63 sn63) (hS64 : zIm S 64 sn64) (hS65 : zIm S 65 sn65) (hS66 : zIm S 66 sn66) {a : List Int} {g : rHp} : ∀ (ρ : Nat → Int) (γ : Nat → rHp), jn74 a g 0 (zAg (zNA a74_ 0) ρ) (γ 1) → zO 9 S a g q74a0_1 ρ γ → zGl (fun i vs g1 => jn74 a g i vs g1) (sn74 a g) q74a0_1 ρ γ := by
  intro ρ γ hJ h
  obtain ⟨ha, hg, hr, hf, hm, hc, hl⟩ := h
  have ha : a = [ρ 0, ρ 1, ρ 2, ρ 3, ρ 4, ρ 5, ρ 6, ρ 7, ρ 8] := ha
  subst ha
  subst hg
  have hJ : jn74 [ρ 0, ρ 1, ρ 2, ρ 3, ρ 4, ρ 5, ρ 6, ρ 7, ρ 8] (γ 0) 0 [ρ 0, ρ 1, ρ 2, ρ 3, ρ 4, ρ 5, ρ 6, ρ 7, ρ 8, ρ 9, ρ 10, ρ 11, ρ 12] (γ 1) := hJ
  have r10 : (0 : Int) ≤ ρ 10 ∧ ρ 10 ≤ 49999 := zRnA hr 10
  have r11 : (0 : Int) ≤ ρ 11 ∧ ρ 11 ≤ 0 := zRnA hr 11
  have r13 : (0 : Int) ≤ ρ 13 ∧ ρ 13 ≤ 0 := zRnA hr 13
  have r16 : (0 : Int) ≤ ρ 16 ∧ ρ 16 ≤ 1999 := zRnA hr 16
  have f2 : (0 : Int) ≤ -ρ 9 + ρ 0 + (-1) := zAllA hf 2
  obtain ⟨w_0, w_1, w_2, w_3, w_4, w_5⟩ : (¬ (ρ 11 ≠ 0)) ∧ (ρ 9 ≠ ρ 0) ∧ (0 ≤ -ρ 13 + 4) ∧ (ρ 13 = 0) ∧ (ρ 16 ≥ 0) ∧ (ρ 10 + 1 ≤ 50000) := ⟨by omega, by omega, by omega, by omega, by omega, by omega⟩
  have m0 : γ 0 73 0 61 = ρ 0 := zAllA hm 0
  have m9 : γ 1 15 0 72 = ρ 10 := zAllA hm 9
  have m10 : γ 1 15 0 77 = ρ 11 := zAllA hm 10
  have m12 : γ 0 77 0 (ρ 9 + 488) = ρ 13 := zAllA hm 12
  have m13 : γ 0 78 0 (ρ 9 + 488) = ρ 14 := zAllA hm 13
  have m14 : γ 0 100 0 (ρ 14) = ρ 15 := zAllA hm 14
  have c3 : γ 3 = rUp (γ 2) 15 0 72 (ρ 10 + 1) := And.right (zChA hc 2)
  have c4 : γ 4 = rUp (γ 3) 104 0 (ρ 9) (ρ 16) := And.right (zChA hc 1)
  have l0 : sn62 [61, ρ 9, ρ 15, ρ 6, ρ 5, ρ 7, ρ 8] (γ 1) 0 (ρ 16) (γ 2) := hS62 _ _ _ _ _ (zAllA hl 0)
  have l1 : sn63 [ρ 9 + 488, ρ 16] (γ 4) 0 0 (γ 5) := hS63 _ _ _ _ _ (zAllA hl 1)
  show jn74 [ρ 0, ρ 1, ρ 2, ρ 3, ρ 4, ρ 5, ρ 6, ρ 7, ρ 8] (γ 0) 0 [ρ 0, ρ 1, ρ 2, ρ 3, ρ 4, ρ 5, ρ 6, ρ 7, ρ 8, ρ 9 + 1, ρ 10 + 1, ρ 11, ρ 12] (γ 5)
  have hD : en74 (γ 0) (0, [ρ 9], γ 1) = .inl (0, [ρ 9 + 1], γ 5) := by
    unfold en74
    refine zIP (show (0 : Nat) = 0 by decide) (zLV (γ 1) rfl (zLV (ρ 9) rfl (zLE m0 (zLE m9 (zLE m10 (zIN w_0 (zIP w_1 ?_)))))))
    refine zLE m12 (zIP w_2 (zIP w_3 (zLE m13 (zLE m14 (zLE (show fn62 [61, ρ 9, ρ 15] (γ 1) = (0, ρ 16, γ 2) from l0.symm) (zLV (γ 2) rfl (zLV (ρ 16) rfl ?_)))))))
    refine zIP w_4 (zLE c3.symm (zIP w_5 (zLE c4.symm (zLE (show fn63 [ρ 9 + 488, ρ 16] (γ 4) = (0, 0, γ 5) from l1.symm) (zLV (γ 5) rfl ?_)))))
    rfl
  exact zGoo_ato hJ hD
set_option maxRecDepth 100000 in
theorem vn74a0_2 {S : Nat → zSpc} (hS62 : zIm S 62 sn62) (hS63 : zIm S 63 sn63) (hS64 : zIm S 64 sn64) (hS65 : zIm S 65 sn65) (hS66 : zIm S 66 sn66) {a : List Int} {g : rHp} : ∀ (ρ : Nat → Int) (γ : Nat → rHp), jn74 a g 0 (zAg (zNA a74_ 0) ρ) (γ 1) → zO 9 S a g q74a0_2 ρ γ → zGl (fun i vs g1 => jn74 a g i vs g1) (sn74 a g) q74a0_2 ρ γ := by
  intro ρ γ hJ h
  obtain ⟨ha, hg, hr, hf, hm, hc, hl⟩ := h
  have ha : a = [ρ 0, ρ 1, ρ 2, ρ 3, ρ 4, ρ 5, ρ 6, ρ 7, ρ 8] := ha
  subst ha
  subst hg
  have hJ : jn74 [ρ 0, ρ 1, ρ 2, ρ 3, ρ 4, ρ 5, ρ 6, ρ 7, ρ 8] (γ 0) 0 [ρ 0, ρ 1, ρ 2, ρ 3, ρ 4, ρ 5, ρ 6, ρ 7, ρ 8, ρ 9, ρ 10, ρ 11, ρ 12] (γ 1) := hJ
  have r10 : (50000 : Int) ≤ ρ 10 ∧ ρ 10 ≤ 50001 := zRnA hr 10
  have r11 : (0 : Int) ≤ ρ 11 ∧ ρ 11 ≤ 0 := zRnA hr 11
  have r13 : (0 : Int) ≤ ρ 13 ∧ ρ 13 ≤ 0 := zRnA hr 13
  have r16 : (0 : Int) ≤ ρ 16 ∧ ρ 16 ≤ 1999 := zRnA hr 16
  have f2 : (0 : Int) ≤ -ρ 9 + ρ 0 + (-1) := zAllA hf 2
  obtain ⟨w_0, w_1, w_2, w_3, w_4, w_5⟩ : (¬ (ρ 11 ≠ 0)) ∧ (ρ 9 ≠ ρ 0) ∧ (0 ≤ -ρ 13 + 4) ∧ (ρ 13 = 0) ∧ (ρ 16 ≥ 0) ∧ (¬ (ρ 10 + 1 ≤ 50000)) := ⟨by omega, by omega, by omega, by omega, by omega, by omega⟩
  have m0 : γ 0 73 0 61 = ρ 0 := zAllA hm 0
  have m9 : γ 1 15 0 72 = ρ 10 := zAllA hm 9
  have m10 : γ 1 15 0 77 = ρ 11 := zAllA hm 10
  have m12 : γ 0 77 0 (ρ 9 + 488) = ρ 13 := zAllA hm 12
  have m13 : γ 0 78 0 (ρ 9 + 488) = ρ 14 := zAllA hm 13
  have m14 : γ 0 100 0 (ρ 14) = ρ 15 := zAllA hm 14
  have c3 : γ 3 = rUp (γ 2) 15 0 72 (ρ 10 + 1) := And.right (zChA hc 3)
  have c4 : γ 4 = rUp (γ 3) 15 0 77 2 := And.right (zChA hc 2)
  have c5 : γ 5 = rUp (γ 4) 104 0 (ρ 9) (ρ 16) := And.right (zChA hc 1)
  have l0 : sn62 [61, ρ 9, ρ 15, ρ 6, ρ 5, ρ 7, ρ 8] (γ 1) 0 (ρ 16) (γ 2) := hS62 _ _ _ _ _ (zAllA hl 0)
  have l1 : sn63 [ρ 9 + 488, ρ 16] (γ 5) 0 0 (γ 6) := hS63 _ _ _ _ _ (zAllA hl 1)
  show jn74 [ρ 0, ρ 1, ρ 2, ρ 3, ρ 4, ρ 5, ρ 6, ρ 7, ρ 8] (γ 0) 0 [ρ 0, ρ 1, ρ 2, ρ 3, ρ 4, ρ 5, ρ 6, ρ 7, ρ 8, ρ 9 + 1, ρ 10 + 1, 2, ρ 12] (γ 6)
  have hD : en74 (γ 0) (0, [ρ 9], γ 1) = .inl (0, [ρ 9 + 1], γ 6) := by
    unfold en74
    refine zIP (show (0 : Nat) = 0 by decide) (zLV (γ 1) rfl (zLV (ρ 9) rfl (zLE m0 (zLE m9 (zLE m10 (zIN w_0 (zIP w_1 ?_)))))))
    refine zLE m12 (zIP w_2 (zIP w_3 (zLE m13 (zLE m14 (zLE (show fn62 [61, ρ 9, ρ 15] (γ 1) = (0, ρ 16, γ 2) from l0.symm) (zLV (γ 2) rfl (zLV (ρ 16) rfl ?_)))))))
    refine zIP w_4 (zLE c3.symm (zIN w_5 (zLE c4.symm (zLE c5.symm (zLE (show fn63 [ρ 9 + 488, ρ 16] (γ 5) = (0, 0, γ 6) from l1.symm) (zLV (γ 6) rfl ?_))))))
    rfl
  exact zGoo_ato hJ hD
set_option maxRecDepth 100000 in
theorem vn74a0_3 {S : Nat → zSpc} (hS62 : zIm S 62 sn62) (hS63 : zIm S 63 sn63) (hS64 : zIm S 64 sn64) (hS65 : zIm S 65 sn65) (hS66 : zIm S 66 sn66) {a : List Int} {g : rHp} : ∀ (ρ : Nat → Int) (γ : Nat → rHp), jn74 a g 0 (zAg (zNA a74_ 0) ρ) (γ 1) → zO 9 S a g q74a0_3 ρ γ → zGl (fun i vs g1 => jn74 a g i vs g1) (sn74 a g) q74a0_3 ρ γ := by
  intro ρ γ hJ h
  obtain ⟨ha, hg, hr, hf, hm, hc, hl⟩ := h
  have ha : a = [ρ 0, ρ 1, ρ 2, ρ 3, ρ 4, ρ 5, ρ 6, ρ 7, ρ 8] := ha
  subst ha
  subst hg
  have hJ : jn74 [ρ 0, ρ 1, ρ 2, ρ 3, ρ 4, ρ 5, ρ 6, ρ 7, ρ 8] (γ 0) 0 [ρ 0, ρ 1, ρ 2, ρ 3, ρ 4, ρ 5, ρ 6, ρ 7, ρ 8, ρ 9, ρ 10, ρ 11, ρ 12] (γ 1) := hJ
  have r11 : (0 : Int) ≤ ρ 11 ∧ ρ 11 ≤ 0 := zRnA hr 11
  have r13 : (0 : Int) ≤ ρ 13 ∧ ρ 13 ≤ 0 := zRnA hr 13
  have r16 : ((-1) : Int) ≤ ρ 16 ∧ ρ 16 ≤ (-1) := zRnA hr 16
  have f2 : (0 : Int) ≤ -ρ 9 + ρ 0 + (-1) := zAllA hf 2
  obtain ⟨w_0, w_1, w_2, w_3, w_4⟩ : (¬ (ρ 11 ≠ 0)) ∧ (ρ 9 ≠ ρ 0) ∧ (0 ≤ -ρ 13 + 4) ∧ (ρ 13 = 0) ∧ (¬ (ρ 16 ≥ 0)) := ⟨by omega, by omega, by omega, by omega, by omega⟩
  have m0 : γ 0 73 0 61 = ρ 0 := zAllA hm 0
  have m9 : γ 1 15 0 72 = ρ 10 := zAllA hm 9
  have m10 : γ 1 15 0 77 = ρ 11 := zAllA hm 10
  have m12 : γ 0 77 0 (ρ 9 + 488) = ρ 13 := zAllA hm 12
  have m13 : γ 0 78 0 (ρ 9 + 488) = ρ 14 := zAllA hm 13
  have m14 : γ 0 100 0 (ρ 14) = ρ 15 := zAllA hm 14
  have l0 : sn62 [61, ρ 9, ρ 15, ρ 6, ρ 5, ρ 7, ρ 8] (γ 1) 0 (ρ 16) (γ 2) := hS62 _ _ _ _ _ (zAllA hl 0)
  show jn74 [ρ 0, ρ 1, ρ 2, ρ 3, ρ 4, ρ 5, ρ 6, ρ 7, ρ 8] (γ 0) 1 [ρ 0, ρ 1, ρ 2, ρ 3, ρ 4, ρ 5, ρ 6, ρ 7, ρ 8, ρ 9 + (-1), ρ 9 + 488, ρ 10, ρ 12] (γ 2)
  have hD : en74 (γ 0) (0, [ρ 9], γ 1) = .inl (1, [ρ 9 + (-1), ρ 9 + 488], γ 2) := by
    unfold en74
    refine zIP (show (0 : Nat) = 0 by decide) (zLV (γ 1) rfl (zLV (ρ 9) rfl (zLE m0 (zLE m9 (zLE m10 (zIN w_0 (zIP w_1 ?_)))))))
    refine zLE m12 (zIP w_2 (zIP w_3 (zLE m13 (zLE m14 (zLE (show fn62 [61, ρ 9, ρ 15] (γ 1) = (0, ρ 16, γ 2) from l0.symm) (zLV (γ 2) rfl (zLV (ρ 16) rfl ?_)))))))
    refine zIN w_4 ?_
    rfl
  exact zGoo_ato hJ hD
set_option maxRecDepth 100000 in
theorem vn74a0_4 {S : Nat → zSpc} (hS62 : zIm S 62 sn62) (hS63 : zIm S 63 sn63) (hS64 : zIm S 64 sn64) (hS65 : zIm S 65 sn65) (hS66 : zIm S 66 sn66) {a : List Int} {g : rHp} : ∀ (ρ : Nat → Int) (γ : Nat → rHp), jn74 a g 0 (zAg (zNA a74_ 0) ρ) (γ 1) → zO 9 S a g q74a0_4 ρ γ → zGl (fun i vs g1 => jn74 a g i vs g1) (sn74 a g) q74a0_4 ρ γ := by
  intro ρ γ hJ h
  obtain ⟨ha, hg, hr, hf, hm, hc, hl⟩ := h
  have ha : a = [ρ 0, ρ 1, ρ 2, ρ 3, ρ 4, ρ 5, ρ 6, ρ 7, ρ 8] := ha
  subst ha
  subst hg
  have hJ : jn74 [ρ 0, ρ 1, ρ 2, ρ 3, ρ 4, ρ 5, ρ 6, ρ 7, ρ 8] (γ 0) 0 [ρ 0, ρ 1, ρ 2, ρ 3, ρ 4, ρ 5, ρ 6, ρ 7, ρ 8, ρ 9, ρ 10, ρ 11, ρ 12] (γ 1) := hJ
  have r11 : (0 : Int) ≤ ρ 11 ∧ ρ 11 ≤ 0 := zRnA hr 11
  have r13 : (1 : Int) ≤ ρ 13 ∧ ρ 13 ≤ 4 := zRnA hr 13
  have f1 : (0 : Int) ≤ -ρ 9 + ρ 0 + (-1) := zAllA hf 1
  obtain ⟨w_0, w_1, w_2, w_3⟩ : (¬ (ρ 11 ≠ 0)) ∧ (ρ 9 ≠ ρ 0) ∧ (0 ≤ -ρ 13 + 4) ∧ (¬ (ρ 13 = 0)) := ⟨by omega, by omega, by omega, by omega⟩
  have m0 : γ 0 73 0 61 = ρ 0 := zAllA hm 0
  have m9 : γ 1 15 0 72 = ρ 10 := zAllA hm 9
  have m10 : γ 1 15 0 77 = ρ 11 := zAllA hm 10
  have m12 : γ 0 77 0 (ρ 9 + 488) = ρ 13 := zAllA hm 12
  have l0 : sn64 [ρ 9 + 488, ρ 13, ρ 14, ρ 6, ρ 5] (γ 1) 0 0 (γ 2) := hS64 _ _ _ _ _ (zAllA hl 0)
  show jn74 [ρ 0, ρ 1, ρ 2, ρ 3, ρ 4, ρ 5, ρ 6, ρ 7, ρ 8] (γ 0) 1 [ρ 0, ρ 1, ρ 2, ρ 3, ρ 4, ρ 5, ρ 6, ρ 7, ρ 8, ρ 9 + (-1), ρ 9 + 488, ρ 10, ρ 12] (γ 2)
  have hD : en74 (γ 0) (0, [ρ 9], γ 1) = .inl (1, [ρ 9 + (-1), ρ 9 + 488], γ 2) := by
    unfold en74
    refine zIP (show (0 : Nat) = 0 by decide) (zLV (γ 1) rfl (zLV (ρ 9) rfl (zLE m0 (zLE m9 (zLE m10 (zIN w_0 (zIP w_1 ?_)))))))
    refine zLE m12 (zIP w_2 (zIN w_3 (zLE (show fn64 [ρ 9 + 488] (γ 1) = (0, 0, γ 2) from l0.symm) (zLV (γ 2) rfl (zIN zQ0_ ?_)))))
    rfl
  exact zGoo_ato hJ hD
set_option maxRecDepth 100000 in
theorem vn74a0_5 {S : Nat → zSpc} (hS62 : zIm S 62 sn62) (hS63 : zIm S 63 sn63) (hS64 : zIm S 64 sn64) (hS65 : zIm S 65 sn65) (hS66 : zIm S 66 sn66) {a : List Int} {g : rHp} : ∀ (ρ : Nat → Int) (γ : Nat → rHp), jn74 a g 0 (zAg (zNA a74_ 0) ρ) (γ 1) → zO 9 S a g q74a0_5 ρ γ → zGl (fun i vs g1 => jn74 a g i vs g1) (sn74 a g) q74a0_5 ρ γ := by
  intro ρ γ hJ h
  obtain ⟨ha, hg, hr, hf, hm, hc, hl⟩ := h
  have ha : a = [ρ 0, ρ 1, ρ 2, ρ 3, ρ 4, ρ 5, ρ 6, ρ 7, ρ 8] := ha
  subst ha
  subst hg
  have hJ : jn74 [ρ 0, ρ 1, ρ 2, ρ 3, ρ 4, ρ 5, ρ 6, ρ 7, ρ 8] (γ 0) 0 [ρ 0, ρ 1, ρ 2, ρ 3, ρ 4, ρ 5, ρ 6, ρ 7, ρ 8, ρ 9, ρ 10, ρ 11, ρ 12] (γ 1) := hJ
  have r11 : (0 : Int) ≤ ρ 11 ∧ ρ 11 ≤ 0 := zRnA hr 11
  have r13 : (1 : Int) ≤ ρ 13 ∧ ρ 13 ≤ 4 := zRnA hr 13
  have f1 : (0 : Int) ≤ -ρ 9 + ρ 0 + (-1) := zAllA hf 1
  obtain ⟨w_0, w_1, w_2, w_3⟩ : (¬ (ρ 11 ≠ 0)) ∧ (ρ 9 ≠ ρ 0) ∧ (0 ≤ -ρ 13 + 4) ∧ (¬ (ρ 13 = 0)) := ⟨by omega, by omega, by omega, by omega⟩
  have m0 : γ 0 73 0 61 = ρ 0 := zAllA hm 0
  have m9 : γ 1 15 0 72 = ρ 10 := zAllA hm 9
  have m10 : γ 1 15 0 77 = ρ 11 := zAllA hm 10
  have m12 : γ 0 77 0 (ρ 9 + 488) = ρ 13 := zAllA hm 12
  have l0 : sn64 [ρ 9 + 488, ρ 13, ρ 14, ρ 6, ρ 5] (γ 1) 0 1 (γ 2) := hS64 _ _ _ _ _ (zAllA hl 0)
  show jn74 [ρ 0, ρ 1, ρ 2, ρ 3, ρ 4, ρ 5, ρ 6, ρ 7, ρ 8] (γ 0) 0 [ρ 0, ρ 1, ρ 2, ρ 3, ρ 4, ρ 5, ρ 6, ρ 7, ρ 8, ρ 9 + 1, ρ 10, ρ 11, ρ 12] (γ 2)
  have hD : en74 (γ 0) (0, [ρ 9], γ 1) = .inl (0, [ρ 9 + 1], γ 2) := by
    unfold en74
    refine zIP (show (0 : Nat) = 0 by decide) (zLV (γ 1) rfl (zLV (ρ 9) rfl (zLE m0 (zLE m9 (zLE m10 (zIN w_0 (zIP w_1 ?_)))))))
    refine zLE m12 (zIP w_2 (zIN w_3 (zLE (show fn64 [ρ 9 + 488] (γ 1) = (0, 1, γ 2) from l0.symm) (zLV (γ 2) rfl (zIP zQ1_ ?_)))))
    rfl
  exact zGoo_ato hJ hD
set_option maxRecDepth 100000 in
theorem vn74a0_6 {S : Nat → zSpc} (hS62 : zIm S 62 sn62) (hS63 : zIm S 63 sn63) (hS64 : zIm S 64 sn64) (hS65 : zIm S 65 sn65) (hS66 : zIm S 66 sn66) {a : List Int} {g : rHp} : ∀ (ρ : Nat → Int) (γ : Nat → rHp), jn74 a g 0 (zAg (zNA a74_ 0) ρ) (γ 1) → zO 9 S a g q74a0_6 ρ γ → zGl (fun i vs g1 => jn74 a g i vs g1) (sn74 a g) q74a0_6 ρ γ := by
  intro ρ γ hJ h
  obtain ⟨ha, hg, hr, hf, hm, hc, hl⟩ := h
  have ha : a = [ρ 0, ρ 1, ρ 2, ρ 3, ρ 4, ρ 5, ρ 6, ρ 7, ρ 8] := ha
  subst ha
  subst hg
  have hJ : jn74 [ρ 0, ρ 1, ρ 2, ρ 3, ρ 4, ρ 5, ρ 6, ρ 7, ρ 8] (γ 0) 0 [ρ 0, ρ 1, ρ 2, ρ 3, ρ 4, ρ 5, ρ 6, ρ 7, ρ 8, ρ 9, ρ 10, ρ 11, ρ 12] (γ 1) := hJ
  have r11 : (0 : Int) ≤ ρ 11 ∧ ρ 11 ≤ 0 := zRnA hr 11
  have r13 : (5 : Int) ≤ ρ 13 ∧ ρ 13 ≤ 7 := zRnA hr 13
  have f1 : (0 : Int) ≤ -ρ 9 + ρ 0 + (-1) := zAllA hf 1
  obtain ⟨w_0, w_1, w_2⟩ : (¬ (ρ 11 ≠ 0)) ∧ (ρ 9 ≠ ρ 0) ∧ (¬ (0 ≤ -ρ 13 + 4)) := ⟨by omega, by omega, by omega⟩
  have m0 : γ 0 73 0 61 = ρ 0 := zAllA hm 0
  have m9 : γ 1 15 0 72 = ρ 10 := zAllA hm 9
  have m10 : γ 1 15 0 77 = ρ 11 := zAllA hm 10
  have m12 : γ 0 77 0 (ρ 9 + 488) = ρ 13 := zAllA hm 12
  have l0 : sn65 [ρ 9 + 488, ρ 13, ρ 14, ρ 6, ρ 5] (γ 1) 0 0 (γ 2) := hS65 _ _ _ _ _ (zAllA hl 0)
  show jn74 [ρ 0, ρ 1, ρ 2, ρ 3, ρ 4, ρ 5, ρ 6, ρ 7, ρ 8] (γ 0) 1 [ρ 0, ρ 1, ρ 2, ρ 3, ρ 4, ρ 5, ρ 6, ρ 7, ρ 8, ρ 9 + (-1), ρ 9 + 488, ρ 10, ρ 12] (γ 2)
  have hD : en74 (γ 0) (0, [ρ 9], γ 1) = .inl (1, [ρ 9 + (-1), ρ 9 + 488], γ 2) := by
    unfold en74
    refine zIP (show (0 : Nat) = 0 by decide) (zLV (γ 1) rfl (zLV (ρ 9) rfl (zLE m0 (zLE m9 (zLE m10 (zIN w_0 (zIP w_1 ?_)))))))
    refine zLE m12 (zIN w_2 (zLE (show fn65 [ρ 9 + 488] (γ 1) = (0, 0, γ 2) from l0.symm) (zLV (γ 2) rfl (zIN zQ0_ ?_))))
    rfl
  exact zGoo_ato hJ hD
set_option maxRecDepth 100000 in
theorem vn74a0_7 {S : Nat → zSpc} (hS62 : zIm S 62 sn62) (hS63 : zIm S 63 sn63) (hS64 : zIm S 64 sn64) (hS65 : zIm S 65 sn65) (hS66 : zIm S 66 sn66) {a : List Int} {g : rHp} : ∀ (ρ : Nat → Int) (γ : Nat → rHp), jn74 a g 0 (zAg (zNA a74_ 0) ρ) (γ 1) → zO 9 S a g q74a0_7 ρ γ → zGl (fun i vs g1 => jn74 a g i vs g1) (sn74 a g) q74a0_7 ρ γ := by
  intro ρ γ hJ h
  obtain ⟨ha, hg, hr, hf, hm, hc, hl⟩ := h
  have ha : a = [ρ 0, ρ 1, ρ 2, ρ 3, ρ 4, ρ 5, ρ 6, ρ 7, ρ 8] := ha
  subst ha
  subst hg
  have hJ : jn74 [ρ 0, ρ 1, ρ 2, ρ 3, ρ 4, ρ 5, ρ 6, ρ 7, ρ 8] (γ 0) 0 [ρ 0, ρ 1, ρ 2, ρ 3, ρ 4, ρ 5, ρ 6, ρ 7, ρ 8, ρ 9, ρ 10, ρ 11, ρ 12] (γ 1) := hJ
  have r11 : (0 : Int) ≤ ρ 11 ∧ ρ 11 ≤ 0 := zRnA hr 11
  have r13 : (5 : Int) ≤ ρ 13 ∧ ρ 13 ≤ 7 := zRnA hr 13
  have f1 : (0 : Int) ≤ -ρ 9 + ρ 0 + (-1) := zAllA hf 1
  obtain ⟨w_0, w_1, w_2⟩ : (¬ (ρ 11 ≠ 0)) ∧ (ρ 9 ≠ ρ 0) ∧ (¬ (0 ≤ -ρ 13 + 4)) := ⟨by omega, by omega, by omega⟩
  have m0 : γ 0 73 0 61 = ρ 0 := zAllA hm 0
  have m9 : γ 1 15 0 72 = ρ 10 := zAllA hm 9
  have m10 : γ 1 15 0 77 = ρ 11 := zAllA hm 10
  have m12 : γ 0 77 0 (ρ 9 + 488) = ρ 13 := zAllA hm 12
  have l0 : sn65 [ρ 9 + 488, ρ 13, ρ 14, ρ 6, ρ 5] (γ 1) 0 1 (γ 2) := hS65 _ _ _ _ _ (zAllA hl 0)
  show jn74 [ρ 0, ρ 1, ρ 2, ρ 3, ρ 4, ρ 5, ρ 6, ρ 7, ρ 8] (γ 0) 0 [ρ 0, ρ 1, ρ 2, ρ 3, ρ 4, ρ 5, ρ 6, ρ 7, ρ 8, ρ 9 + 1, ρ 10, ρ 11, ρ 12] (γ 2)
  have hD : en74 (γ 0) (0, [ρ 9], γ 1) = .inl (0, [ρ 9 + 1], γ 2) := by
    unfold en74
    refine zIP (show (0 : Nat) = 0 by decide) (zLV (γ 1) rfl (zLV (ρ 9) rfl (zLE m0 (zLE m9 (zLE m10 (zIN w_0 (zIP w_1 ?_)))))))
    refine zLE m12 (zIN w_2 (zLE (show fn65 [ρ 9 + 488] (γ 1) = (0, 1, γ 2) from l0.symm) (zLV (γ 2) rfl (zIP zQ1_ ?_))))
    rfl
  exact zGoo_ato hJ hD
set_option maxRecDepth 100000 in
theorem vn74a0_8 {S : Nat → zSpc} (hS62 : zIm S 62 sn62) (hS63 : zIm S 63 sn63) (hS64 : zIm S 64 sn64) (hS65 : zIm S 65 sn65) (hS66 : zIm S 66 sn66) {a : List Int} {g : rHp} : ∀ (ρ : Nat → Int) (γ : Nat → rHp), jn74 a g 0 (zAg (zNA a74_ 0) ρ) (γ 1) → zO 9 S a g q74a0_8 ρ γ → zGl (fun i vs g1 => jn74 a g i vs g1) (sn74 a g) q74a0_8 ρ γ := by
  intro ρ γ hJ h
  obtain ⟨ha, hg, hr, hf, hm, hc, hl⟩ := h
  have ha : a = [ρ 0, ρ 1, ρ 2, ρ 3, ρ 4, ρ 5, ρ 6, ρ 7, ρ 8] := ha
  subst ha
  subst hg
  have hJ : jn74 [ρ 0, ρ 1, ρ 2, ρ 3, ρ 4, ρ 5, ρ 6, ρ 7, ρ 8] (γ 0) 0 [ρ 0, ρ 1, ρ 2, ρ 3, ρ 4, ρ 5, ρ 6, ρ 7, ρ 8, ρ 9, ρ 10, ρ 11, ρ 12] (γ 1) := hJ
  have r11 : (0 : Int) ≤ ρ 11 ∧ ρ 11 ≤ 0 := zRnA hr 11
  have f0 : (0 : Int) ≤ -ρ 9 + ρ 0 := zAllA hf 0
  have f1 : (0 : Int) ≤ ρ 9 + -ρ 0 := zAllA hf 1
  obtain ⟨w_0, w_1⟩ : (¬ (ρ 11 ≠ 0)) ∧ (¬ (ρ 9 ≠ ρ 0)) := ⟨by omega, by omega⟩
  have m0 : γ 0 73 0 61 = ρ 0 := zAllA hm 0
  have m9 : γ 1 15 0 72 = ρ 10 := zAllA hm 9
  have m10 : γ 1 15 0 77 = ρ 11 := zAllA hm 10
  have l0 : sn66 [ρ 12] (γ 1) 0 0 (γ 2) := hS66 _ _ _ _ _ (zAllA hl 0)
  show jn74 [ρ 0, ρ 1, ρ 2, ρ 3, ρ 4, ρ 5, ρ 6, ρ 7, ρ 8] (γ 0) 1 [ρ 0, ρ 1, ρ 2, ρ 3, ρ 4, ρ 5, ρ 6, ρ 7, ρ 8, ρ 9 + (-1), ρ 9 + 488, ρ 10, ρ 12 + 1] (γ 2)
  have hD : en74 (γ 0) (0, [ρ 9], γ 1) = .inl (1, [ρ 9 + (-1), ρ 9 + 488], γ 2) := by
    unfold en74
    refine zIP (show (0 : Nat) = 0 by decide) (zLV (γ 1) rfl (zLV (ρ 9) rfl (zLE m0 (zLE m9 (zLE m10 (zIN w_0 (zIN w_1 ?_)))))))
    refine zLE (show fn66 [] (γ 1) = (0, 0, γ 2) from l0.symm) (zLV (γ 2) rfl ?_)
    rfl
  exact zGoo_ato hJ hD
set_option maxRecDepth 100000 in
theorem vn74a1_0 {S : Nat → zSpc} (hS62 : zIm S 62 sn62) (hS63 : zIm S 63 sn63) (hS64 : zIm S 64 sn64) (hS65 : zIm S 65 sn65) (hS66 : zIm S 66 sn66) {a : List Int} {g : rHp} : ∀ (ρ : Nat → Int) (γ : Nat → rHp), jn74 a g 1 (zAg (zNA a74_ 1) ρ) (γ 1) → zO 9 S a g q74a1_0 ρ γ → zGl (fun i vs g1 => jn74 a g i vs g1) (sn74 a g) q74a1_0 ρ γ := by
  intro ρ γ hJ h
  obtain ⟨ha, hg, hr, hf, hm, hc, hl⟩ := h
  have ha : a = [ρ 0, ρ 1, ρ 2, ρ 3, ρ 4, ρ 5, ρ 6, ρ 7, ρ 8] := ha
  subst ha
  subst hg
  have hJ : jn74 [ρ 0, ρ 1, ρ 2, ρ 3, ρ 4, ρ 5, ρ 6, ρ 7, ρ 8] (γ 0) 1 [ρ 0, ρ 1, ρ 2, ρ 3, ρ 4, ρ 5, ρ 6, ρ 7, ρ 8, ρ 9, ρ 10, ρ 11, ρ 12] (γ 1) := hJ
  have r9 : ((-1) : Int) ≤ ρ 9 ∧ ρ 9 ≤ (-1) := zRnA hr 9
  have w_0 : ρ 9 < 0 := by omega
  have m9 : γ 1 15 0 72 = ρ 11 := zAllA hm 9
  show sn74 [ρ 0, ρ 1, ρ 2, ρ 3, ρ 4, ρ 5, ρ 6, ρ 7, ρ 8] (γ 0) 0 0 (γ 1)
  have hD : en74 (γ 0) (1, [ρ 9, ρ 10], γ 1) = .inr (0, 0, γ 1) := by
    unfold en74
    refine zIN (show ¬ (1 : Nat) = 0 by decide) (zIP (show (1 : Nat) = 1 by decide) (zLV (γ 1) rfl (zLV (ρ 9) rfl (zLE m9 (zIP w_0 ?_)))))
    rfl
  exact zGoo_aend hJ hD
set_option maxRecDepth 100000 in
theorem vn74a1_1 {S : Nat → zSpc} (hS62 : zIm S 62 sn62) (hS63 : zIm S 63 sn63) (hS64 : zIm S 64 sn64) (hS65 : zIm S 65 sn65) (hS66 : zIm S 66 sn66) {a : List Int} {g : rHp} : ∀ (ρ : Nat → Int) (γ : Nat → rHp), jn74 a g 1 (zAg (zNA a74_ 1) ρ) (γ 1) → zO 9 S a g q74a1_1 ρ γ → zGl (fun i vs g1 => jn74 a g i vs g1) (sn74 a g) q74a1_1 ρ γ := by
  intro ρ γ hJ h
  obtain ⟨ha, hg, hr, hf, hm, hc, hl⟩ := h
  have ha : a = [ρ 0, ρ 1, ρ 2, ρ 3, ρ 4, ρ 5, ρ 6, ρ 7, ρ 8] := ha
  subst ha
  subst hg
  have hJ : jn74 [ρ 0, ρ 1, ρ 2, ρ 3, ρ 4, ρ 5, ρ 6, ρ 7, ρ 8] (γ 0) 1 [ρ 0, ρ 1, ρ 2, ρ 3, ρ 4, ρ 5, ρ 6, ρ 7, ρ 8, ρ 9, ρ 10, ρ 11, ρ 12] (γ 1) := hJ
  have r9 : (0 : Int) ≤ ρ 9 ∧ ρ 9 ≤ 7 := zRnA hr 9
  have r11 : (0 : Int) ≤ ρ 11 ∧ ρ 11 ≤ 49999 := zRnA hr 11
  have r13 : (0 : Int) ≤ ρ 13 ∧ ρ 13 ≤ 0 := zRnA hr 13
  have r16 : (0 : Int) ≤ ρ 16 ∧ ρ 16 ≤ 1999 := zRnA hr 16
  obtain ⟨w_0, w_1, w_2, w_3, w_4⟩ : (¬ (ρ 9 < 0)) ∧ (0 ≤ -ρ 13 + 4) ∧ (ρ 13 = 0) ∧ (ρ 16 ≥ 0) ∧ (ρ 11 + 1 ≤ 50000) := ⟨by omega, by omega, by omega, by omega, by omega⟩
  have m9 : γ 1 15 0 72 = ρ 11 := zAllA hm 9
  have m12 : γ 0 77 0 (ρ 9 + 488) = ρ 13 := zAllA hm 12
  have m13 : γ 1 104 0 (ρ 9) = ρ 14 := zAllA hm 13
  have m14 : γ 0 96 0 (ρ 14) = ρ 15 := zAllA hm 14
  have c3 : γ 3 = rUp (γ 2) 15 0 72 (ρ 11 + 1) := And.right (zChA hc 2)
  have c4 : γ 4 = rUp (γ 3) 104 0 (ρ 9) (ρ 16) := And.right (zChA hc 1)
  have l0 : sn62 [61, ρ 9, ρ 15, ρ 6, ρ 5, ρ 7, ρ 8] (γ 1) 0 (ρ 16) (γ 2) := hS62 _ _ _ _ _ (zAllA hl 0)
  have l1 : sn63 [ρ 9 + 488, ρ 16] (γ 4) 0 0 (γ 5) := hS63 _ _ _ _ _ (zAllA hl 1)
  show jn74 [ρ 0, ρ 1, ρ 2, ρ 3, ρ 4, ρ 5, ρ 6, ρ 7, ρ 8] (γ 0) 0 [ρ 0, ρ 1, ρ 2, ρ 3, ρ 4, ρ 5, ρ 6, ρ 7, ρ 8, ρ 9 + 1, ρ 11 + 1, ρ 2, ρ 12] (γ 5)
  have hD : en74 (γ 0) (1, [ρ 9, ρ 10], γ 1) = .inl (0, [ρ 9 + 1], γ 5) := by
    unfold en74
    refine zIN (show ¬ (1 : Nat) = 0 by decide) (zIP (show (1 : Nat) = 1 by decide) (zLV (γ 1) rfl (zLV (ρ 9) rfl (zLE m9 (zIN w_0 (zLE m12 (zIP w_1 ?_)))))))
    refine zIP w_2 (zLE m13 (zLE m14 (zLE (show fn62 [61, ρ 9, ρ 15] (γ 1) = (0, ρ 16, γ 2) from l0.symm) (zLV (γ 2) rfl (zLV (ρ 16) rfl (zIP w_3 (zLE c3.symm ?_)))))))
    refine zIP w_4 (zLE c4.symm (zLE (show fn63 [ρ 9 + 488, ρ 16] (γ 4) = (0, 0, γ 5) from l1.symm) (zLV (γ 5) rfl ?_)))
    rfl
  exact zGoo_ato hJ hD
set_option maxRecDepth 100000 in
theorem vn74a1_2 {S : Nat → zSpc} (hS62 : zIm S 62 sn62) (hS63 : zIm S 63 sn63) (hS64 : zIm S 64 sn64) (hS65 : zIm S 65 sn65) (hS66 : zIm S 66 sn66) {a : List Int} {g : rHp} : ∀ (ρ : Nat → Int) (γ : Nat → rHp), jn74 a g 1 (zAg (zNA a74_ 1) ρ) (γ 1) → zO 9 S a g q74a1_2 ρ γ → zGl (fun i vs g1 => jn74 a g i vs g1) (sn74 a g) q74a1_2 ρ γ := by
  intro ρ γ hJ h
  obtain ⟨ha, hg, hr, hf, hm, hc, hl⟩ := h
  have ha : a = [ρ 0, ρ 1, ρ 2, ρ 3, ρ 4, ρ 5, ρ 6, ρ 7, ρ 8] := ha
  subst ha
  subst hg
  have hJ : jn74 [ρ 0, ρ 1, ρ 2, ρ 3, ρ 4, ρ 5, ρ 6, ρ 7, ρ 8] (γ 0) 1 [ρ 0, ρ 1, ρ 2, ρ 3, ρ 4, ρ 5, ρ 6, ρ 7, ρ 8, ρ 9, ρ 10, ρ 11, ρ 12] (γ 1) := hJ
  have r9 : (0 : Int) ≤ ρ 9 ∧ ρ 9 ≤ 7 := zRnA hr 9
  have r11 : (50000 : Int) ≤ ρ 11 ∧ ρ 11 ≤ 50000 := zRnA hr 11
  have r13 : (0 : Int) ≤ ρ 13 ∧ ρ 13 ≤ 0 := zRnA hr 13
  have r16 : (0 : Int) ≤ ρ 16 ∧ ρ 16 ≤ 1999 := zRnA hr 16
  obtain ⟨w_0, w_1, w_2, w_3, w_4⟩ : (¬ (ρ 9 < 0)) ∧ (0 ≤ -ρ 13 + 4) ∧ (ρ 13 = 0) ∧ (ρ 16 ≥ 0) ∧ (¬ (ρ 11 + 1 ≤ 50000)) := ⟨by omega, by omega, by omega, by omega, by omega⟩
  have m9 : γ 1 15 0 72 = ρ 11 := zAllA hm 9
  have m12 : γ 0 77 0 (ρ 9 + 488) = ρ 13 := zAllA hm 12
  have m13 : γ 1 104 0 (ρ 9) = ρ 14 := zAllA hm 13
  have m14 : γ 0 96 0 (ρ 14) = ρ 15 := zAllA hm 14
  have c3 : γ 3 = rUp (γ 2) 15 0 72 (ρ 11 + 1) := And.right (zChA hc 3)
  have c4 : γ 4 = rUp (γ 3) 15 0 77 2 := And.right (zChA hc 2)
  have c5 : γ 5 = rUp (γ 4) 104 0 (ρ 9) (ρ 16) := And.right (zChA hc 1)
  have l0 : sn62 [61, ρ 9, ρ 15, ρ 6, ρ 5, ρ 7, ρ 8] (γ 1) 0 (ρ 16) (γ 2) := hS62 _ _ _ _ _ (zAllA hl 0)
  have l1 : sn63 [ρ 9 + 488, ρ 16] (γ 5) 0 0 (γ 6) := hS63 _ _ _ _ _ (zAllA hl 1)
  show jn74 [ρ 0, ρ 1, ρ 2, ρ 3, ρ 4, ρ 5, ρ 6, ρ 7, ρ 8] (γ 0) 0 [ρ 0, ρ 1, ρ 2, ρ 3, ρ 4, ρ 5, ρ 6, ρ 7, ρ 8, ρ 9 + 1, ρ 11 + 1, 2, ρ 12] (γ 6)
  have hD : en74 (γ 0) (1, [ρ 9, ρ 10], γ 1) = .inl (0, [ρ 9 + 1], γ 6) := by
    unfold en74
    refine zIN (show ¬ (1 : Nat) = 0 by decide) (zIP (show (1 : Nat) = 1 by decide) (zLV (γ 1) rfl (zLV (ρ 9) rfl (zLE m9 (zIN w_0 (zLE m12 (zIP w_1 ?_)))))))
    refine zIP w_2 (zLE m13 (zLE m14 (zLE (show fn62 [61, ρ 9, ρ 15] (γ 1) = (0, ρ 16, γ 2) from l0.symm) (zLV (γ 2) rfl (zLV (ρ 16) rfl (zIP w_3 (zLE c3.symm ?_)))))))
    refine zIN w_4 (zLE c4.symm (zLE c5.symm (zLE (show fn63 [ρ 9 + 488, ρ 16] (γ 5) = (0, 0, γ 6) from l1.symm) (zLV (γ 6) rfl ?_))))
    rfl
  exact zGoo_ato hJ hD
set_option maxRecDepth 100000 in
theorem vn74a1_3 {S : Nat → zSpc} (hS62 : zIm S 62 sn62) (hS63 : zIm S 63 sn63) (hS64 : zIm S 64 sn64) (hS65 : zIm S 65 sn65) (hS66 : zIm S 66 sn66) {a : List Int} {g : rHp} : ∀ (ρ : Nat → Int) (γ : Nat → rHp), jn74 a g 1 (zAg (zNA a74_ 1) ρ) (γ 1) → zO 9 S a g q74a1_3 ρ γ → zGl (fun i vs g1 => jn74 a g i vs g1) (sn74 a g) q74a1_3 ρ γ := by
  intro ρ γ hJ h
  obtain ⟨ha, hg, hr, hf, hm, hc, hl⟩ := h
  have ha : a = [ρ 0, ρ 1, ρ 2, ρ 3, ρ 4, ρ 5, ρ 6, ρ 7, ρ 8] := ha
  subst ha
  subst hg
  have hJ : jn74 [ρ 0, ρ 1, ρ 2, ρ 3, ρ 4, ρ 5, ρ 6, ρ 7, ρ 8] (γ 0) 1 [ρ 0, ρ 1, ρ 2, ρ 3, ρ 4, ρ 5, ρ 6, ρ 7, ρ 8, ρ 9, ρ 10, ρ 11, ρ 12] (γ 1) := hJ
  have r9 : (0 : Int) ≤ ρ 9 ∧ ρ 9 ≤ 7 := zRnA hr 9
  have r13 : (0 : Int) ≤ ρ 13 ∧ ρ 13 ≤ 0 := zRnA hr 13
  have r16 : ((-1) : Int) ≤ ρ 16 ∧ ρ 16 ≤ (-1) := zRnA hr 16
  obtain ⟨w_0, w_1, w_2, w_3⟩ : (¬ (ρ 9 < 0)) ∧ (0 ≤ -ρ 13 + 4) ∧ (ρ 13 = 0) ∧ (¬ (ρ 16 ≥ 0)) := ⟨by omega, by omega, by omega, by omega⟩
  have m9 : γ 1 15 0 72 = ρ 11 := zAllA hm 9
  have m12 : γ 0 77 0 (ρ 9 + 488) = ρ 13 := zAllA hm 12
  have m13 : γ 1 104 0 (ρ 9) = ρ 14 := zAllA hm 13
  have m14 : γ 0 96 0 (ρ 14) = ρ 15 := zAllA hm 14
  have l0 : sn62 [61, ρ 9, ρ 15, ρ 6, ρ 5, ρ 7, ρ 8] (γ 1) 0 (ρ 16) (γ 2) := hS62 _ _ _ _ _ (zAllA hl 0)
  show jn74 [ρ 0, ρ 1, ρ 2, ρ 3, ρ 4, ρ 5, ρ 6, ρ 7, ρ 8] (γ 0) 1 [ρ 0, ρ 1, ρ 2, ρ 3, ρ 4, ρ 5, ρ 6, ρ 7, ρ 8, ρ 9 + (-1), ρ 9 + 488, ρ 11, ρ 12] (γ 2)
  have hD : en74 (γ 0) (1, [ρ 9, ρ 10], γ 1) = .inl (1, [ρ 9 + (-1), ρ 9 + 488], γ 2) := by
    unfold en74
    refine zIN (show ¬ (1 : Nat) = 0 by decide) (zIP (show (1 : Nat) = 1 by decide) (zLV (γ 1) rfl (zLV (ρ 9) rfl (zLE m9 (zIN w_0 (zLE m12 (zIP w_1 ?_)))))))
    refine zIP w_2 (zLE m13 (zLE m14 (zLE (show fn62 [61, ρ 9, ρ 15] (γ 1) = (0, ρ 16, γ 2) from l0.symm) (zLV (γ 2) rfl (zLV (ρ 16) rfl (zIN w_3 ?_))))))
    rfl
  exact zGoo_ato hJ hD
set_option maxRecDepth 100000 in
theorem vn74a1_4 {S : Nat → zSpc} (hS62 : zIm S 62 sn62) (hS63 : zIm S 63 sn63) (hS64 : zIm S 64 sn64) (hS65 : zIm S 65 sn65) (hS66 : zIm S 66 sn66) {a : List Int} {g : rHp} : ∀ (ρ : Nat → Int) (γ : Nat → rHp), jn74 a g 1 (zAg (zNA a74_ 1) ρ) (γ 1) → zO 9 S a g q74a1_4 ρ γ → zGl (fun i vs g1 => jn74 a g i vs g1) (sn74 a g) q74a1_4 ρ γ := by
  intro ρ γ hJ h
  obtain ⟨ha, hg, hr, hf, hm, hc, hl⟩ := h
  have ha : a = [ρ 0, ρ 1, ρ 2, ρ 3, ρ 4, ρ 5, ρ 6, ρ 7, ρ 8] := ha
  subst ha
  subst hg
  have hJ : jn74 [ρ 0, ρ 1, ρ 2, ρ 3, ρ 4, ρ 5, ρ 6, ρ 7, ρ 8] (γ 0) 1 [ρ 0, ρ 1, ρ 2, ρ 3, ρ 4, ρ 5, ρ 6, ρ 7, ρ 8, ρ 9, ρ 10, ρ 11, ρ 12] (γ 1) := hJ
  have r9 : (0 : Int) ≤ ρ 9 ∧ ρ 9 ≤ 7 := zRnA hr 9
  have r13 : (1 : Int) ≤ ρ 13 ∧ ρ 13 ≤ 4 := zRnA hr 13
  obtain ⟨w_0, w_1, w_2⟩ : (¬ (ρ 9 < 0)) ∧ (0 ≤ -ρ 13 + 4) ∧ (¬ (ρ 13 = 0)) := ⟨by omega, by omega, by omega⟩
  have m9 : γ 1 15 0 72 = ρ 11 := zAllA hm 9
  have m12 : γ 0 77 0 (ρ 9 + 488) = ρ 13 := zAllA hm 12
  show jn74 [ρ 0, ρ 1, ρ 2, ρ 3, ρ 4, ρ 5, ρ 6, ρ 7, ρ 8] (γ 0) 1 [ρ 0, ρ 1, ρ 2, ρ 3, ρ 4, ρ 5, ρ 6, ρ 7, ρ 8, ρ 9 + (-1), ρ 9 + 488, ρ 11, ρ 12] (γ 1)
  have hD : en74 (γ 0) (1, [ρ 9, ρ 10], γ 1) = .inl (1, [ρ 9 + (-1), ρ 9 + 488], γ 1) := by
    unfold en74
    refine zIN (show ¬ (1 : Nat) = 0 by decide) (zIP (show (1 : Nat) = 1 by decide) (zLV (γ 1) rfl (zLV (ρ 9) rfl (zLE m9 (zIN w_0 (zLE m12 (zIP w_1 ?_)))))))
    refine zIN w_2 ?_
    rfl
  exact zGoo_ato hJ hD
set_option maxRecDepth 100000 in
theorem vn74a1_5 {S : Nat → zSpc} (hS62 : zIm S 62 sn62) (hS63 : zIm S 63 sn63) (hS64 : zIm S 64 sn64) (hS65 : zIm S 65 sn65) (hS66 : zIm S 66 sn66) {a : List Int} {g : rHp} : ∀ (ρ : Nat → Int) (γ : Nat → rHp), jn74 a g 1 (zAg (zNA a74_ 1) ρ) (γ 1) → zO 9 S a g q74a1_5 ρ γ → zGl (fun i vs g1 => jn74 a g i vs g1) (sn74 a g) q74a1_5 ρ γ := by
  intro ρ γ hJ h
  obtain ⟨ha, hg, hr, hf, hm, hc, hl⟩ := h
  have ha : a = [ρ 0, ρ 1, ρ 2, ρ 3, ρ 4, ρ 5, ρ 6, ρ 7, ρ 8] := ha
  subst ha
  subst hg
  have hJ : jn74 [ρ 0, ρ 1, ρ 2, ρ 3, ρ 4, ρ 5, ρ 6, ρ 7, ρ 8] (γ 0) 1 [ρ 0, ρ 1, ρ 2, ρ 3, ρ 4, ρ 5, ρ 6, ρ 7, ρ 8, ρ 9, ρ 10, ρ 11, ρ 12] (γ 1) := hJ
  have r9 : (0 : Int) ≤ ρ 9 ∧ ρ 9 ≤ 7 := zRnA hr 9
  have r13 : (5 : Int) ≤ ρ 13 ∧ ρ 13 ≤ 7 := zRnA hr 13
  obtain ⟨w_0, w_1⟩ : (¬ (ρ 9 < 0)) ∧ (¬ (0 ≤ -ρ 13 + 4)) := ⟨by omega, by omega⟩
  have m9 : γ 1 15 0 72 = ρ 11 := zAllA hm 9
  have m12 : γ 0 77 0 (ρ 9 + 488) = ρ 13 := zAllA hm 12
  show jn74 [ρ 0, ρ 1, ρ 2, ρ 3, ρ 4, ρ 5, ρ 6, ρ 7, ρ 8] (γ 0) 1 [ρ 0, ρ 1, ρ 2, ρ 3, ρ 4, ρ 5, ρ 6, ρ 7, ρ 8, ρ 9 + (-1), ρ 9 + 488, ρ 11, ρ 12] (γ 1)
  have hD : en74 (γ 0) (1, [ρ 9, ρ 10], γ 1) = .inl (1, [ρ 9 + (-1), ρ 9 + 488], γ 1) := by
    unfold en74
    refine zIN (show ¬ (1 : Nat) = 0 by decide) (zIP (show (1 : Nat) = 1 by decide) (zLV (γ 1) rfl (zLV (ρ 9) rfl (zLE m9 (zIN w_0 (zLE m12 (zIN w_1 ?_)))))))
    rfl
  exact zGoo_ato hJ hD
set_option maxRecDepth 100000 in
theorem yn74 {S : Nat → zSpc} (hS62 : zIm S 62 sn62) (hS63 : zIm S 63 sn63) (hS64 : zIm S 64 sn64) (hS65 : zIm S 65 sn65) (hS66 : zIm S 66 sn66) : ∀ x g o v gz, zSem uW uT w74_.2.2.2.1 w74_.2.2.1.1.length S q74 (fun i => q74a.getD i []) (zNA a74_) x g o v gz → sn74 x g o v gz := by
  intro a g o v gz h
  exact zSem_all (l0 := q74) (las := q74a) (S := S) (J := (fun i vs g1 => jn74 a g i vs g1)) (P := sn74 a g) (fun _ => (show zAll _ [q74_0] from (zAll_c (vn74_0 hS62 hS63 hS64 hS65 hS66) zAll_n))) (fun _ => (show zAllI _ 0 [q74a0, q74a1] from ⟨(show zAll _ [q74a0_0, q74a0_1, q74a0_2, q74a0_3, q74a0_4, q74a0_5, q74a0_6, q74a0_7, q74a0_8] from (zAll_c (vn74a0_0 hS62 hS63 hS64 hS65 hS66) (zAll_c (vn74a0_1 hS62 hS63 hS64 hS65 hS66) (zAll_c (vn74a0_2 hS62 hS63 hS64 hS65 hS66) (zAll_c (vn74a0_3 hS62 hS63 hS64 hS65 hS66) (zAll_c (vn74a0_4 hS62 hS63 hS64 hS65 hS66) (zAll_c (vn74a0_5 hS62 hS63 hS64 hS65 hS66) (zAll_c (vn74a0_6 hS62 hS63 hS64 hS65 hS66) (zAll_c (vn74a0_7 hS62 hS63 hS64 hS65 hS66) (zAll_c (vn74a0_8 hS62 hS63 hS64 hS65 hS66) zAll_n)))))))))), ⟨(show zAll _ [q74a1_0, q74a1_1, q74a1_2, q74a1_3, q74a1_4, q74a1_5] from (zAll_c (vn74a1_0 hS62 hS63 hS64 hS65 hS66) (zAll_c (vn74a1_1 hS62 hS63 hS64 hS65 hS66) (zAll_c (vn74a1_2 hS62 hS63 hS64 hS65 hS66) (zAll_c (vn74a1_3 hS62 hS63 hS64 hS65 hS66) (zAll_c (vn74a1_4 hS62 hS63 hS64 hS65 hS66) (zAll_c (vn74a1_5 hS62 hS63 hS64 hS65 hS66) zAll_n))))))), trivial⟩⟩)) h
set_option maxRecDepth 100000 in
theorem vn79_0 {S : Nat → zSpc}  {a : List Int} {g : rHp} : ∀ (ρ : Nat → Int) (γ : Nat → rHp), zO 2 S a g q79_0 ρ γ → zGl (fun _ _ _ => True) (sn79 a g) q79_0 ρ γ := by
  intro ρ γ h
  obtain ⟨ha, hg, hr, hf, hm, hc, hl⟩ := h
  have ha : a = [ρ 0, ρ 1] := ha
  subst ha
  subst hg
  have r0 : ((-2147483648) : Int) ≤ ρ 0 ∧ ρ 0 ≤ (-1) := zRnA hr 0
  have w_0 : ρ 0 < 0 := by omega
  have m0 : γ 0 15 0 71 = ρ 1 := zAllA hm 0
  show sn79 [ρ 0, ρ 1] (γ 0) 0 0 (γ 0)
  refine Eq.symm ?_
  show fn79 [ρ 0] (γ 0) = _
  unfold fn79
  refine zLV (ρ 0) rfl (zLE m0 (zIP w_0 ?_))
  rfl
set_option maxRecDepth 100000 in
theorem vn79_1 {S : Nat → zSpc}  {a : List Int} {g : rHp} : ∀ (ρ : Nat → Int) (γ : Nat → rHp), zO 2 S a g q79_1 ρ γ → zGl (fun _ _ _ => True) (sn79 a g) q79_1 ρ γ := by
  intro ρ γ h
  obtain ⟨ha, hg, hr, hf, hm, hc, hl⟩ := h
  have ha : a = [ρ 0, ρ 1] := ha
  subst ha
  subst hg
  have r0 : (0 : Int) ≤ ρ 0 ∧ ρ 0 ≤ 2147483647 := zRnA hr 0
  have f0 : (0 : Int) ≤ -ρ 1 + ρ 0 := zAllA hf 0
  obtain ⟨w_0, w_1⟩ : (¬ (ρ 0 < 0)) ∧ (ρ 0 ≥ ρ 1) := ⟨by omega, by omega⟩
  have m0 : γ 0 15 0 71 = ρ 1 := zAllA hm 0
  show sn79 [ρ 0, ρ 1] (γ 0) 0 0 (γ 0)
  refine Eq.symm ?_
  show fn79 [ρ 0] (γ 0) = _
  unfold fn79
  refine zLV (ρ 0) rfl (zLE m0 (zIN w_0 (zIP w_1 ?_)))
  rfl
set_option maxRecDepth 100000 in
theorem vn79_2 {S : Nat → zSpc}  {a : List Int} {g : rHp} : ∀ (ρ : Nat → Int) (γ : Nat → rHp), zO 2 S a g q79_2 ρ γ → zGl (fun _ _ _ => True) (sn79 a g) q79_2 ρ γ := by
  intro ρ γ h
  obtain ⟨ha, hg, hr, hf, hm, hc, hl⟩ := h
  have ha : a = [ρ 0, ρ 1] := ha
  subst ha
  subst hg
  have r0 : (0 : Int) ≤ ρ 0 ∧ ρ 0 ≤ 2147483647 := zRnA hr 0
  have f0 : (0 : Int) ≤ ρ 1 + -ρ 0 + (-1) := zAllA hf 0
  obtain ⟨w_0, w_1⟩ : (¬ (ρ 0 < 0)) ∧ (¬ (ρ 0 ≥ ρ 1)) := ⟨by omega, by omega⟩
  have m0 : γ 0 15 0 71 = ρ 1 := zAllA hm 0
  show sn79 [ρ 0, ρ 1] (γ 0) 0 1 (γ 0)
  refine Eq.symm ?_
  show fn79 [ρ 0] (γ 0) = _
  unfold fn79
  refine zLV (ρ 0) rfl (zLE m0 (zIN w_0 (zIN w_1 ?_)))
  rfl
set_option maxRecDepth 100000 in
theorem yn79 {S : Nat → zSpc}  : ∀ x g o v gz, zSem uW uT w79_.2.2.2.1 w79_.2.2.1.1.length S q79 (fun i => q79a.getD i []) (zNA a79_) x g o v gz → sn79 x g o v gz := by
  intro a g o v gz h
  exact zSem_all (l0 := q79) (las := q79a) (S := S) (J := (fun _ _ _ => True)) (P := sn79 a g) (fun _ => (show zAll _ [q79_0, q79_1, q79_2] from (zAll_c (vn79_0 ) (zAll_c (vn79_1 ) (zAll_c (vn79_2 ) zAll_n))))) (fun _ => (show zAllI _ 0 [] from trivial)) h
set_option maxRecDepth 100000 in
theorem vn80_0 {S : Nat → zSpc} (hS55 : zIm S 55 sn55) {a : List Int} {g : rHp} : ∀ (ρ : Nat → Int) (γ : Nat → rHp), zO 1 S a g q80_0 ρ γ → zGl (fun _ _ _ => True) (sn80 a g) q80_0 ρ γ := by
  intro ρ γ h
  obtain ⟨ha, hg, hr, hf, hm, hc, hl⟩ := h
  have ha : a = [ρ 0] := ha
  subst ha
  subst hg
  have l0 : sn55 [ρ 0] (γ 0) 0 0 (γ 1) := hS55 _ _ _ _ _ (zAllA hl 0)
  have l1 : zOpP (.ladd) (γ 0) (γ 1) [200000000, ρ 0] (ρ 1) := zAllA hl 1
  have l2 : zOpP (.lsub) (γ 0) (γ 1) [ρ 1, 1099511627776] (ρ 2) := zAllA hl 2
  have l3 : zOpP (.l2i) (γ 0) (γ 1) [ρ 2] (ρ 3) := zAllA hl 3
  show sn80 [ρ 0] (γ 0) 0 (ρ 3) (γ 1)
  refine Eq.symm ?_
  show fn80 [ρ 0] (γ 0) = _
  unfold fn80
  refine zLV (ρ 0) rfl (zLE (show fn55 [ρ 0] (γ 0) = (0, 0, γ 1) from l0.symm) (zLV (γ 1) rfl (zIN zQ0_ (zLE (zF2_ok l1) (zLE (zF2_ok l2) (zLE (zF1_ok l3) ?_))))))
  rfl
set_option maxRecDepth 100000 in
theorem vn80_1 {S : Nat → zSpc} (hS55 : zIm S 55 sn55) {a : List Int} {g : rHp} : ∀ (ρ : Nat → Int) (γ : Nat → rHp), zO 1 S a g q80_1 ρ γ → zGl (fun _ _ _ => True) (sn80 a g) q80_1 ρ γ := by
  intro ρ γ h
  obtain ⟨ha, hg, hr, hf, hm, hc, hl⟩ := h
  have ha : a = [ρ 0] := ha
  subst ha
  subst hg
  have l0 : sn55 [ρ 0] (γ 0) 0 1 (γ 1) := hS55 _ _ _ _ _ (zAllA hl 0)
  have l1 : zOpP (.l2i) (γ 0) (γ 1) [ρ 0] (ρ 1) := zAllA hl 1
  show sn80 [ρ 0] (γ 0) 0 (ρ 1) (γ 1)
  refine Eq.symm ?_
  show fn80 [ρ 0] (γ 0) = _
  unfold fn80
  refine zLV (ρ 0) rfl (zLE (show fn55 [ρ 0] (γ 0) = (0, 1, γ 1) from l0.symm) (zLV (γ 1) rfl (zIP zQ1_ (zLE (zF1_ok l1) ?_))))
  rfl
set_option maxRecDepth 100000 in
theorem yn80 {S : Nat → zSpc} (hS55 : zIm S 55 sn55) : ∀ x g o v gz, zSem uW uT w80_.2.2.2.1 w80_.2.2.1.1.length S q80 (fun i => q80a.getD i []) (zNA a80_) x g o v gz → sn80 x g o v gz := by
  intro a g o v gz h
  exact zSem_all (l0 := q80) (las := q80a) (S := S) (J := (fun _ _ _ => True)) (P := sn80 a g) (fun _ => (show zAll _ [q80_0, q80_1] from (zAll_c (vn80_0 hS55) (zAll_c (vn80_1 hS55) zAll_n)))) (fun _ => (show zAllI _ 0 [] from trivial)) h
set_option maxRecDepth 100000 in
theorem vn81_0 {S : Nat → zSpc} (hS1 : zIm S 1 sn1) (hS79 : zIm S 79 sn79) (hS80 : zIm S 80 sn80) {a : List Int} {g : rHp} : ∀ (ρ : Nat → Int) (γ : Nat → rHp), zO 4 S a g q81_0 ρ γ → zGl (fun _ _ _ => True) (sn81 a g) q81_0 ρ γ := by
  intro ρ γ h
  obtain ⟨ha, hg, hr, hf, hm, hc, hl⟩ := h
  have ha : a = [ρ 0, ρ 1, ρ 2, ρ 3] := ha
  subst ha
  subst hg
  have r1 : ((-2147483648) : Int) ≤ ρ 1 ∧ ρ 1 ≤ (-1) := zRnA hr 1
  have w_0 : ρ 1 < 0 := by omega
  have l0 : sn1 [1, ρ 2] (γ 0) 0 1 (γ 1) := hS1 _ _ _ _ _ (zAllA hl 0)
  show sn81 [ρ 0, ρ 1, ρ 2, ρ 3] (γ 0) 0 0 (γ 1)
  refine Eq.symm ?_
  show fn81 [ρ 0, ρ 1] (γ 0) = _
  unfold fn81
  refine zLV (ρ 0) rfl (zLV (ρ 1) rfl (zIP w_0 (zLE (show fn1 [1] (γ 0) = (0, 1, γ 1) from l0.symm) (zLV (γ 1) rfl ?_))))
  rfl
set_option maxRecDepth 100000 in
theorem vn81_1 {S : Nat → zSpc} (hS1 : zIm S 1 sn1) (hS79 : zIm S 79 sn79) (hS80 : zIm S 80 sn80) {a : List Int} {g : rHp} : ∀ (ρ : Nat → Int) (γ : Nat → rHp), zO 4 S a g q81_1 ρ γ → zGl (fun _ _ _ => True) (sn81 a g) q81_1 ρ γ := by
  intro ρ γ h
  obtain ⟨ha, hg, hr, hf, hm, hc, hl⟩ := h
  have ha : a = [ρ 0, ρ 1, ρ 2, ρ 3] := ha
  subst ha
  subst hg
  have r1 : (0 : Int) ≤ ρ 1 ∧ ρ 1 ≤ 8 := zRnA hr 1
  have r4 : (1 : Int) ≤ ρ 4 ∧ ρ 4 ≤ 1 := zRnA hr 4
  obtain ⟨w_0, w_1, w_2⟩ : (¬ (ρ 1 < 0)) ∧ (ρ 1 ≤ 8) ∧ (ρ 4 ≠ 0) := ⟨by omega, by omega, by omega⟩
  have m2 : γ 0 15 0 59 = ρ 4 := zAllA hm 2
  have l0 : sn79 [ρ 0, ρ 3] (γ 0) 0 0 (γ 1) := hS79 _ _ _ _ _ (zAllA hl 0)
  have l1 : sn1 [3, ρ 2] (γ 1) 0 1 (γ 2) := hS1 _ _ _ _ _ (zAllA hl 1)
  show sn81 [ρ 0, ρ 1, ρ 2, ρ 3] (γ 0) 0 0 (γ 2)
  refine Eq.symm ?_
  show fn81 [ρ 0, ρ 1] (γ 0) = _
  unfold fn81
  refine zLV (ρ 0) rfl (zLV (ρ 1) rfl (zIN w_0 (zIP w_1 (zLE m2 (zIP w_2 (zLE (show fn79 [ρ 0] (γ 0) = (0, 0, γ 1) from l0.symm) (zLV (γ 1) rfl ?_)))))))
  refine zIN zQ0_ (zLE (show fn1 [3] (γ 1) = (0, 1, γ 2) from l1.symm) (zLV (γ 2) rfl ?_))
  rfl
set_option maxRecDepth 100000 in
theorem vn81_2 {S : Nat → zSpc} (hS1 : zIm S 1 sn1) (hS79 : zIm S 79 sn79) (hS80 : zIm S 80 sn80) {a : List Int} {g : rHp} : ∀ (ρ : Nat → Int) (γ : Nat → rHp), zO 4 S a g q81_2 ρ γ → zGl (fun _ _ _ => True) (sn81 a g) q81_2 ρ γ := by
  intro ρ γ h
  obtain ⟨ha, hg, hr, hf, hm, hc, hl⟩ := h
  have ha : a = [ρ 0, ρ 1, ρ 2, ρ 3] := ha
  subst ha
  subst hg
  have r1 : (0 : Int) ≤ ρ 1 ∧ ρ 1 ≤ 3 := zRnA hr 1
  have r4 : (1 : Int) ≤ ρ 4 ∧ ρ 4 ≤ 1 := zRnA hr 4
  have f0 : (0 : Int) ≤ -ρ 6 + ρ 1 := zAllA hf 0
  obtain ⟨w_0, w_1, w_2, w_3, w_4⟩ : (¬ (ρ 1 < 0)) ∧ (ρ 1 ≤ 8) ∧ (ρ 4 ≠ 0) ∧ (0 ≤ -ρ 1 + 3) ∧ (ρ 1 ≥ ρ 6) := ⟨by omega, by omega, by omega, by omega, by omega⟩
  have m2 : γ 0 15 0 59 = ρ 4 := zAllA hm 2
  have m4 : γ 0 93 0 (ρ 0) = ρ 5 := zAllA hm 4
  have m5 : γ 0 66 0 (ρ 5) = ρ 6 := zAllA hm 5
  have l0 : sn79 [ρ 0, ρ 3] (γ 0) 0 1 (γ 1) := hS79 _ _ _ _ _ (zAllA hl 0)
  have l1 : sn1 [0, ρ 2] (γ 1) 0 0 (γ 2) := hS1 _ _ _ _ _ (zAllA hl 1)
  show sn81 [ρ 0, ρ 1, ρ 2, ρ 3] (γ 0) 0 300000000 (γ 2)
  refine Eq.symm ?_
  show fn81 [ρ 0, ρ 1] (γ 0) = _
  unfold fn81
  refine zLV (ρ 0) rfl (zLV (ρ 1) rfl (zIN w_0 (zIP w_1 (zLE m2 (zIP w_2 (zLE (show fn79 [ρ 0] (γ 0) = (0, 1, γ 1) from l0.symm) (zLV (γ 1) rfl ?_)))))))
  refine zIP zQ1_ (zLE (show fn1 [0] (γ 1) = (0, 0, γ 2) from l1.symm) (zLV (γ 2) rfl (zLE m4 (zIP w_3 (zLE m5 (zIP w_4 ?_))))))
  rfl
set_option maxRecDepth 100000 in
theorem vn81_3 {S : Nat → zSpc} (hS1 : zIm S 1 sn1) (hS79 : zIm S 79 sn79) (hS80 : zIm S 80 sn80) {a : List Int} {g : rHp} : ∀ (ρ : Nat → Int) (γ : Nat → rHp), zO 4 S a g q81_3 ρ γ → zGl (fun _ _ _ => True) (sn81 a g) q81_3 ρ γ := by
  intro ρ γ h
  obtain ⟨ha, hg, hr, hf, hm, hc, hl⟩ := h
  have ha : a = [ρ 0, ρ 1, ρ 2, ρ 3] := ha
  subst ha
  subst hg
  have r1 : (0 : Int) ≤ ρ 1 ∧ ρ 1 ≤ 3 := zRnA hr 1
  have r4 : (1 : Int) ≤ ρ 4 ∧ ρ 4 ≤ 1 := zRnA hr 4
  have f0 : (0 : Int) ≤ ρ 6 + -ρ 1 + (-1) := zAllA hf 0
  obtain ⟨w_0, w_1, w_2, w_3, w_4⟩ : (¬ (ρ 1 < 0)) ∧ (ρ 1 ≤ 8) ∧ (ρ 4 ≠ 0) ∧ (0 ≤ -ρ 1 + 3) ∧ (¬ (ρ 1 ≥ ρ 6)) := ⟨by omega, by omega, by omega, by omega, by omega⟩
  have m2 : γ 0 15 0 59 = ρ 4 := zAllA hm 2
  have m4 : γ 0 93 0 (ρ 0) = ρ 5 := zAllA hm 4
  have m5 : γ 0 66 0 (ρ 5) = ρ 6 := zAllA hm 5
  have m6 : γ 0 99 0 (ρ 1 + 4 * ρ 0) = ρ 7 := zAllA hm 6
  have l0 : sn79 [ρ 0, ρ 3] (γ 0) 0 1 (γ 1) := hS79 _ _ _ _ _ (zAllA hl 0)
  have l1 : sn1 [0, ρ 2] (γ 1) 0 0 (γ 2) := hS1 _ _ _ _ _ (zAllA hl 1)
  have l2 : sn80 [ρ 7] (γ 2) 0 (ρ 8) (γ 3) := hS80 _ _ _ _ _ (zAllA hl 2)
  show sn81 [ρ 0, ρ 1, ρ 2, ρ 3] (γ 0) 0 (ρ 8) (γ 3)
  refine Eq.symm ?_
  show fn81 [ρ 0, ρ 1] (γ 0) = _
  unfold fn81
  refine zLV (ρ 0) rfl (zLV (ρ 1) rfl (zIN w_0 (zIP w_1 (zLE m2 (zIP w_2 (zLE (show fn79 [ρ 0] (γ 0) = (0, 1, γ 1) from l0.symm) (zLV (γ 1) rfl ?_)))))))
  refine zIP zQ1_ (zLE (show fn1 [0] (γ 1) = (0, 0, γ 2) from l1.symm) (zLV (γ 2) rfl (zLE m4 (zIP w_3 (zLE m5 (zIN w_4 (zLE m6 ?_)))))))
  refine zLE (show fn80 [ρ 7] (γ 2) = (0, ρ 8, γ 3) from l2.symm) (zLV (γ 3) rfl (zLV (ρ 8) rfl ?_))
  rfl
set_option maxRecDepth 100000 in
theorem vn81_4 {S : Nat → zSpc} (hS1 : zIm S 1 sn1) (hS79 : zIm S 79 sn79) (hS80 : zIm S 80 sn80) {a : List Int} {g : rHp} : ∀ (ρ : Nat → Int) (γ : Nat → rHp), zO 4 S a g q81_4 ρ γ → zGl (fun _ _ _ => True) (sn81 a g) q81_4 ρ γ := by
  intro ρ γ h
  obtain ⟨ha, hg, hr, hf, hm, hc, hl⟩ := h
  have ha : a = [ρ 0, ρ 1, ρ 2, ρ 3] := ha
  subst ha
  subst hg
  have r1 : (4 : Int) ≤ ρ 1 ∧ ρ 1 ≤ 4 := zRnA hr 1
  have r4 : (1 : Int) ≤ ρ 4 ∧ ρ 4 ≤ 1 := zRnA hr 4
  obtain ⟨w_0, w_1, w_2, w_3, w_4⟩ : (¬ (ρ 1 < 0)) ∧ (ρ 1 ≤ 8) ∧ (ρ 4 ≠ 0) ∧ (¬ (0 ≤ -ρ 1 + 3)) ∧ (ρ 1 = 4) := ⟨by omega, by omega, by omega, by omega, by omega⟩
  have m2 : γ 0 15 0 59 = ρ 4 := zAllA hm 2
  have m4 : γ 0 93 0 (ρ 0) = ρ 5 := zAllA hm 4
  have l0 : sn79 [ρ 0, ρ 3] (γ 0) 0 1 (γ 1) := hS79 _ _ _ _ _ (zAllA hl 0)
  have l1 : sn1 [0, ρ 2] (γ 1) 0 0 (γ 2) := hS1 _ _ _ _ _ (zAllA hl 1)
  show sn81 [ρ 0, ρ 1, ρ 2, ρ 3] (γ 0) 0 (ρ 5) (γ 2)
  refine Eq.symm ?_
  show fn81 [ρ 0, ρ 1] (γ 0) = _
  unfold fn81
  refine zLV (ρ 0) rfl (zLV (ρ 1) rfl (zIN w_0 (zIP w_1 (zLE m2 (zIP w_2 (zLE (show fn79 [ρ 0] (γ 0) = (0, 1, γ 1) from l0.symm) (zLV (γ 1) rfl ?_)))))))
  refine zIP zQ1_ (zLE (show fn1 [0] (γ 1) = (0, 0, γ 2) from l1.symm) (zLV (γ 2) rfl (zLE m4 (zIN w_3 (zIP w_4 ?_)))))
  rfl
set_option maxRecDepth 100000 in
theorem vn81_5 {S : Nat → zSpc} (hS1 : zIm S 1 sn1) (hS79 : zIm S 79 sn79) (hS80 : zIm S 80 sn80) {a : List Int} {g : rHp} : ∀ (ρ : Nat → Int) (γ : Nat → rHp), zO 4 S a g q81_5 ρ γ → zGl (fun _ _ _ => True) (sn81 a g) q81_5 ρ γ := by
  intro ρ γ h
  obtain ⟨ha, hg, hr, hf, hm, hc, hl⟩ := h
  have ha : a = [ρ 0, ρ 1, ρ 2, ρ 3] := ha
  subst ha
  subst hg
  have r1 : (5 : Int) ≤ ρ 1 ∧ ρ 1 ≤ 5 := zRnA hr 1
  have r4 : (1 : Int) ≤ ρ 4 ∧ ρ 4 ≤ 1 := zRnA hr 4
  obtain ⟨w_0, w_1, w_2, w_3, w_4, w_5⟩ : (¬ (ρ 1 < 0)) ∧ (ρ 1 ≤ 8) ∧ (ρ 4 ≠ 0) ∧ (¬ (0 ≤ -ρ 1 + 3)) ∧ (¬ (ρ 1 = 4)) ∧ (ρ 1 = 5) := ⟨by omega, by omega, by omega, by omega, by omega, by omega⟩
  have m2 : γ 0 15 0 59 = ρ 4 := zAllA hm 2
  have m4 : γ 0 93 0 (ρ 0) = ρ 5 := zAllA hm 4
  have m5 : γ 0 92 0 (ρ 5) = ρ 6 := zAllA hm 5
  have l0 : sn79 [ρ 0, ρ 3] (γ 0) 0 1 (γ 1) := hS79 _ _ _ _ _ (zAllA hl 0)
  have l1 : sn1 [0, ρ 2] (γ 1) 0 0 (γ 2) := hS1 _ _ _ _ _ (zAllA hl 1)
  show sn81 [ρ 0, ρ 1, ρ 2, ρ 3] (γ 0) 0 (ρ 6) (γ 2)
  refine Eq.symm ?_
  show fn81 [ρ 0, ρ 1] (γ 0) = _
  unfold fn81
  refine zLV (ρ 0) rfl (zLV (ρ 1) rfl (zIN w_0 (zIP w_1 (zLE m2 (zIP w_2 (zLE (show fn79 [ρ 0] (γ 0) = (0, 1, γ 1) from l0.symm) (zLV (γ 1) rfl ?_)))))))
  refine zIP zQ1_ (zLE (show fn1 [0] (γ 1) = (0, 0, γ 2) from l1.symm) (zLV (γ 2) rfl (zLE m4 (zIN w_3 (zIN w_4 (zIP w_5 (zLE m5 ?_)))))))
  rfl
set_option maxRecDepth 100000 in
theorem vn81_6 {S : Nat → zSpc} (hS1 : zIm S 1 sn1) (hS79 : zIm S 79 sn79) (hS80 : zIm S 80 sn80) {a : List Int} {g : rHp} : ∀ (ρ : Nat → Int) (γ : Nat → rHp), zO 4 S a g q81_6 ρ γ → zGl (fun _ _ _ => True) (sn81 a g) q81_6 ρ γ := by
  intro ρ γ h
  obtain ⟨ha, hg, hr, hf, hm, hc, hl⟩ := h
  have ha : a = [ρ 0, ρ 1, ρ 2, ρ 3] := ha
  subst ha
  subst hg
  have r1 : (6 : Int) ≤ ρ 1 ∧ ρ 1 ≤ 6 := zRnA hr 1
  have r4 : (1 : Int) ≤ ρ 4 ∧ ρ 4 ≤ 1 := zRnA hr 4
  obtain ⟨w_0, w_1, w_2, w_3, w_4, w_5, w_6⟩ : (¬ (ρ 1 < 0)) ∧ (ρ 1 ≤ 8) ∧ (ρ 4 ≠ 0) ∧ (¬ (0 ≤ -ρ 1 + 3)) ∧ (¬ (ρ 1 = 4)) ∧ (¬ (ρ 1 = 5)) ∧ (ρ 1 = 6) := ⟨by omega, by omega, by omega, by omega, by omega, by omega, by omega⟩
  have m2 : γ 0 15 0 59 = ρ 4 := zAllA hm 2
  have m4 : γ 0 93 0 (ρ 0) = ρ 5 := zAllA hm 4
  have m5 : γ 0 94 0 (ρ 0) = ρ 6 := zAllA hm 5
  have l0 : sn79 [ρ 0, ρ 3] (γ 0) 0 1 (γ 1) := hS79 _ _ _ _ _ (zAllA hl 0)
  have l1 : sn1 [0, ρ 2] (γ 1) 0 0 (γ 2) := hS1 _ _ _ _ _ (zAllA hl 1)
  show sn81 [ρ 0, ρ 1, ρ 2, ρ 3] (γ 0) 0 (ρ 6) (γ 2)
  refine Eq.symm ?_
  show fn81 [ρ 0, ρ 1] (γ 0) = _
  unfold fn81
  refine zLV (ρ 0) rfl (zLV (ρ 1) rfl (zIN w_0 (zIP w_1 (zLE m2 (zIP w_2 (zLE (show fn79 [ρ 0] (γ 0) = (0, 1, γ 1) from l0.symm) (zLV (γ 1) rfl ?_)))))))
  refine zIP zQ1_ (zLE (show fn1 [0] (γ 1) = (0, 0, γ 2) from l1.symm) (zLV (γ 2) rfl (zLE m4 (zIN w_3 (zIN w_4 (zIN w_5 (zIP w_6 ?_)))))))
  refine zLE m5 ?_
  rfl
set_option maxRecDepth 100000 in
theorem vn81_7 {S : Nat → zSpc} (hS1 : zIm S 1 sn1) (hS79 : zIm S 79 sn79) (hS80 : zIm S 80 sn80) {a : List Int} {g : rHp} : ∀ (ρ : Nat → Int) (γ : Nat → rHp), zO 4 S a g q81_7 ρ γ → zGl (fun _ _ _ => True) (sn81 a g) q81_7 ρ γ := by
  intro ρ γ h
  obtain ⟨ha, hg, hr, hf, hm, hc, hl⟩ := h
  have ha : a = [ρ 0, ρ 1, ρ 2, ρ 3] := ha
  subst ha
  subst hg
  have r1 : (7 : Int) ≤ ρ 1 ∧ ρ 1 ≤ 7 := zRnA hr 1
  have r4 : (1 : Int) ≤ ρ 4 ∧ ρ 4 ≤ 1 := zRnA hr 4
  obtain ⟨w_0, w_1, w_2, w_3, w_4, w_5, w_6, w_7⟩ : (¬ (ρ 1 < 0)) ∧ (ρ 1 ≤ 8) ∧ (ρ 4 ≠ 0) ∧ (¬ (0 ≤ -ρ 1 + 3)) ∧ (¬ (ρ 1 = 4)) ∧ (¬ (ρ 1 = 5)) ∧ (¬ (ρ 1 = 6)) ∧ (ρ 1 = 7) := ⟨by omega, by omega, by omega, by omega, by omega, by omega, by omega, by omega⟩
  have m2 : γ 0 15 0 59 = ρ 4 := zAllA hm 2
  have m4 : γ 0 93 0 (ρ 0) = ρ 5 := zAllA hm 4
  have m5 : γ 0 95 0 (ρ 0) = ρ 6 := zAllA hm 5
  have l0 : sn79 [ρ 0, ρ 3] (γ 0) 0 1 (γ 1) := hS79 _ _ _ _ _ (zAllA hl 0)
  have l1 : sn1 [0, ρ 2] (γ 1) 0 0 (γ 2) := hS1 _ _ _ _ _ (zAllA hl 1)
  show sn81 [ρ 0, ρ 1, ρ 2, ρ 3] (γ 0) 0 (ρ 6) (γ 2)
  refine Eq.symm ?_
  show fn81 [ρ 0, ρ 1] (γ 0) = _
  unfold fn81
  refine zLV (ρ 0) rfl (zLV (ρ 1) rfl (zIN w_0 (zIP w_1 (zLE m2 (zIP w_2 (zLE (show fn79 [ρ 0] (γ 0) = (0, 1, γ 1) from l0.symm) (zLV (γ 1) rfl ?_)))))))
  refine zIP zQ1_ (zLE (show fn1 [0] (γ 1) = (0, 0, γ 2) from l1.symm) (zLV (γ 2) rfl (zLE m4 (zIN w_3 (zIN w_4 (zIN w_5 (zIN w_6 ?_)))))))
  refine zIP w_7 (zLE m5 ?_)
  rfl
set_option maxRecDepth 100000 in
theorem vn81_8 {S : Nat → zSpc} (hS1 : zIm S 1 sn1) (hS79 : zIm S 79 sn79) (hS80 : zIm S 80 sn80) {a : List Int} {g : rHp} : ∀ (ρ : Nat → Int) (γ : Nat → rHp), zO 4 S a g q81_8 ρ γ → zGl (fun _ _ _ => True) (sn81 a g) q81_8 ρ γ := by
  intro ρ γ h
  obtain ⟨ha, hg, hr, hf, hm, hc, hl⟩ := h
  have ha : a = [ρ 0, ρ 1, ρ 2, ρ 3] := ha
  subst ha
  subst hg
  have r1 : (8 : Int) ≤ ρ 1 ∧ ρ 1 ≤ 8 := zRnA hr 1
  have r4 : (1 : Int) ≤ ρ 4 ∧ ρ 4 ≤ 1 := zRnA hr 4
  obtain ⟨w_0, w_1, w_2, w_3, w_4, w_5, w_6, w_7⟩ : (¬ (ρ 1 < 0)) ∧ (ρ 1 ≤ 8) ∧ (ρ 4 ≠ 0) ∧ (¬ (0 ≤ -ρ 1 + 3)) ∧ (¬ (ρ 1 = 4)) ∧ (¬ (ρ 1 = 5)) ∧ (¬ (ρ 1 = 6)) ∧ (¬ (ρ 1 = 7)) := ⟨by omega, by omega, by omega, by omega, by omega, by omega, by omega, by omega⟩
  have m2 : γ 0 15 0 59 = ρ 4 := zAllA hm 2
  have m4 : γ 0 93 0 (ρ 0) = ρ 5 := zAllA hm 4
  have m5 : γ 0 97 0 (ρ 0) = ρ 6 := zAllA hm 5
  have l0 : sn79 [ρ 0, ρ 3] (γ 0) 0 1 (γ 1) := hS79 _ _ _ _ _ (zAllA hl 0)
  have l1 : sn1 [0, ρ 2] (γ 1) 0 0 (γ 2) := hS1 _ _ _ _ _ (zAllA hl 1)
  show sn81 [ρ 0, ρ 1, ρ 2, ρ 3] (γ 0) 0 (ρ 6) (γ 2)
  refine Eq.symm ?_
  show fn81 [ρ 0, ρ 1] (γ 0) = _
  unfold fn81
  refine zLV (ρ 0) rfl (zLV (ρ 1) rfl (zIN w_0 (zIP w_1 (zLE m2 (zIP w_2 (zLE (show fn79 [ρ 0] (γ 0) = (0, 1, γ 1) from l0.symm) (zLV (γ 1) rfl ?_)))))))
  refine zIP zQ1_ (zLE (show fn1 [0] (γ 1) = (0, 0, γ 2) from l1.symm) (zLV (γ 2) rfl (zLE m4 (zIN w_3 (zIN w_4 (zIN w_5 (zIN w_6 ?_)))))))
  refine zIN w_7 (zLE m5 ?_)
  rfl
set_option maxRecDepth 100000 in
theorem vn81_9 {S : Nat → zSpc} (hS1 : zIm S 1 sn1) (hS79 : zIm S 79 sn79) (hS80 : zIm S 80 sn80) {a : List Int} {g : rHp} : ∀ (ρ : Nat → Int) (γ : Nat → rHp), zO 4 S a g q81_9 ρ γ → zGl (fun _ _ _ => True) (sn81 a g) q81_9 ρ γ := by
  intro ρ γ h
  obtain ⟨ha, hg, hr, hf, hm, hc, hl⟩ := h
  have ha : a = [ρ 0, ρ 1, ρ 2, ρ 3] := ha
  subst ha
  subst hg
  have r1 : (0 : Int) ≤ ρ 1 ∧ ρ 1 ≤ 8 := zRnA hr 1
  have r4 : (0 : Int) ≤ ρ 4 ∧ ρ 4 ≤ 0 := zRnA hr 4
  obtain ⟨w_0, w_1, w_2⟩ : (¬ (ρ 1 < 0)) ∧ (ρ 1 ≤ 8) ∧ (¬ (ρ 4 ≠ 0)) := ⟨by omega, by omega, by omega⟩
  have m2 : γ 0 15 0 59 = ρ 4 := zAllA hm 2
  have l0 : sn1 [2, ρ 2] (γ 0) 0 1 (γ 1) := hS1 _ _ _ _ _ (zAllA hl 0)
  show sn81 [ρ 0, ρ 1, ρ 2, ρ 3] (γ 0) 0 0 (γ 1)
  refine Eq.symm ?_
  show fn81 [ρ 0, ρ 1] (γ 0) = _
  unfold fn81
  refine zLV (ρ 0) rfl (zLV (ρ 1) rfl (zIN w_0 (zIP w_1 (zLE m2 (zIN w_2 (zLE (show fn1 [2] (γ 0) = (0, 1, γ 1) from l0.symm) (zLV (γ 1) rfl ?_)))))))
  rfl
set_option maxRecDepth 100000 in
theorem vn81_10 {S : Nat → zSpc} (hS1 : zIm S 1 sn1) (hS79 : zIm S 79 sn79) (hS80 : zIm S 80 sn80) {a : List Int} {g : rHp} : ∀ (ρ : Nat → Int) (γ : Nat → rHp), zO 4 S a g q81_10 ρ γ → zGl (fun _ _ _ => True) (sn81 a g) q81_10 ρ γ := by
  intro ρ γ h
  obtain ⟨ha, hg, hr, hf, hm, hc, hl⟩ := h
  have ha : a = [ρ 0, ρ 1, ρ 2, ρ 3] := ha
  subst ha
  subst hg
  have r1 : (9 : Int) ≤ ρ 1 ∧ ρ 1 ≤ 2147483647 := zRnA hr 1
  obtain ⟨w_0, w_1⟩ : (¬ (ρ 1 < 0)) ∧ (¬ (ρ 1 ≤ 8)) := ⟨by omega, by omega⟩
  have l0 : sn1 [1, ρ 2] (γ 0) 0 1 (γ 1) := hS1 _ _ _ _ _ (zAllA hl 0)
  show sn81 [ρ 0, ρ 1, ρ 2, ρ 3] (γ 0) 0 0 (γ 1)
  refine Eq.symm ?_
  show fn81 [ρ 0, ρ 1] (γ 0) = _
  unfold fn81
  refine zLV (ρ 0) rfl (zLV (ρ 1) rfl (zIN w_0 (zIN w_1 (zLE (show fn1 [1] (γ 0) = (0, 1, γ 1) from l0.symm) (zLV (γ 1) rfl ?_)))))
  rfl
set_option maxRecDepth 100000 in
theorem yn81 {S : Nat → zSpc} (hS1 : zIm S 1 sn1) (hS79 : zIm S 79 sn79) (hS80 : zIm S 80 sn80) : ∀ x g o v gz, zSem uW uT w81_.2.2.2.1 w81_.2.2.1.1.length S q81 (fun i => q81a.getD i []) (zNA a81_) x g o v gz → sn81 x g o v gz := by
  intro a g o v gz h
  exact zSem_all (l0 := q81) (las := q81a) (S := S) (J := (fun _ _ _ => True)) (P := sn81 a g) (fun _ => (show zAll _ [q81_0, q81_1, q81_2, q81_3, q81_4, q81_5, q81_6, q81_7, q81_8, q81_9, q81_10] from (zAll_c (vn81_0 hS1 hS79 hS80) (zAll_c (vn81_1 hS1 hS79 hS80) (zAll_c (vn81_2 hS1 hS79 hS80) (zAll_c (vn81_3 hS1 hS79 hS80) (zAll_c (vn81_4 hS1 hS79 hS80) (zAll_c (vn81_5 hS1 hS79 hS80) (zAll_c (vn81_6 hS1 hS79 hS80) (zAll_c (vn81_7 hS1 hS79 hS80) (zAll_c (vn81_8 hS1 hS79 hS80) (zAll_c (vn81_9 hS1 hS79 hS80) (zAll_c (vn81_10 hS1 hS79 hS80) zAll_n))))))))))))) (fun _ => (show zAllI _ 0 [] from trivial)) h
set_option maxRecDepth 100000 in
theorem vn82_0 {S : Nat → zSpc} (hS1 : zIm S 1 sn1) (hS79 : zIm S 79 sn79) {a : List Int} {g : rHp} : ∀ (ρ : Nat → Int) (γ : Nat → rHp), zO 4 S a g q82_0 ρ γ → zGl (fun _ _ _ => True) (sn82 a g) q82_0 ρ γ := by
  intro ρ γ h
  obtain ⟨ha, hg, hr, hf, hm, hc, hl⟩ := h
  have ha : a = [ρ 0, ρ 1, ρ 2, ρ 3] := ha
  subst ha
  subst hg
  have r4 : (1 : Int) ≤ ρ 4 ∧ ρ 4 ≤ 1 := zRnA hr 4
  have w_0 : ρ 4 ≠ 0 := by omega
  have m2 : γ 0 15 0 59 = ρ 4 := zAllA hm 2
  have l0 : sn79 [ρ 0, ρ 3] (γ 0) 0 0 (γ 1) := hS79 _ _ _ _ _ (zAllA hl 0)
  have l1 : sn1 [2, ρ 2] (γ 1) 0 1 (γ 2) := hS1 _ _ _ _ _ (zAllA hl 1)
  show sn82 [ρ 0, ρ 1, ρ 2, ρ 3] (γ 0) 0 0 (γ 2)
  refine Eq.symm ?_
  show fn82 [ρ 0, ρ 1] (γ 0) = _
  unfold fn82
  refine zLV (ρ 0) rfl (zLV (ρ 1) rfl (zLE m2 (zIP w_0 (zLE (show fn79 [ρ 0] (γ 0) = (0, 0, γ 1) from l0.symm) (zLV (γ 1) rfl (zIN zQ0_ (zLE (show fn1 [2] (γ 1) = (0, 1, γ 2) from l1.symm) ?_)))))))
  refine zLV (γ 2) rfl ?_
  rfl
set_option maxRecDepth 100000 in
theorem vn82_1 {S : Nat → zSpc} (hS1 : zIm S 1 sn1) (hS79 : zIm S 79 sn79) {a : List Int} {g : rHp} : ∀ (ρ : Nat → Int) (γ : Nat → rHp), zO 4 S a g q82_1 ρ γ → zGl (fun _ _ _ => True) (sn82 a g) q82_1 ρ γ := by
  intro ρ γ h
  obtain ⟨ha, hg, hr, hf, hm, hc, hl⟩ := h
  have ha : a = [ρ 0, ρ 1, ρ 2, ρ 3] := ha
  subst ha
  subst hg
  have r1 : ((-2147483648) : Int) ≤ ρ 1 ∧ ρ 1 ≤ (-1) := zRnA hr 1
  have r4 : (1 : Int) ≤ ρ 4 ∧ ρ 4 ≤ 1 := zRnA hr 4
  obtain ⟨w_0, w_1⟩ : (ρ 4 ≠ 0) ∧ (ρ 1 < 0) := ⟨by omega, by omega⟩
  have m2 : γ 0 15 0 59 = ρ 4 := zAllA hm 2
  have l0 : sn79 [ρ 0, ρ 3] (γ 0) 0 1 (γ 1) := hS79 _ _ _ _ _ (zAllA hl 0)
  have l1 : sn1 [2, ρ 2] (γ 1) 0 1 (γ 2) := hS1 _ _ _ _ _ (zAllA hl 1)
  show sn82 [ρ 0, ρ 1, ρ 2, ρ 3] (γ 0) 0 0 (γ 2)
  refine Eq.symm ?_
  show fn82 [ρ 0, ρ 1] (γ 0) = _
  unfold fn82
  refine zLV (ρ 0) rfl (zLV (ρ 1) rfl (zLE m2 (zIP w_0 (zLE (show fn79 [ρ 0] (γ 0) = (0, 1, γ 1) from l0.symm) (zLV (γ 1) rfl (zIP zQ1_ (zIP w_1 ?_)))))))
  refine zLE (show fn1 [2] (γ 1) = (0, 1, γ 2) from l1.symm) (zLV (γ 2) rfl ?_)
  rfl
set_option maxRecDepth 100000 in
theorem vn82_2 {S : Nat → zSpc} (hS1 : zIm S 1 sn1) (hS79 : zIm S 79 sn79) {a : List Int} {g : rHp} : ∀ (ρ : Nat → Int) (γ : Nat → rHp), zO 4 S a g q82_2 ρ γ → zGl (fun _ _ _ => True) (sn82 a g) q82_2 ρ γ := by
  intro ρ γ h
  obtain ⟨ha, hg, hr, hf, hm, hc, hl⟩ := h
  have ha : a = [ρ 0, ρ 1, ρ 2, ρ 3] := ha
  subst ha
  subst hg
  have r1 : (0 : Int) ≤ ρ 1 ∧ ρ 1 ≤ 2147483647 := zRnA hr 1
  have r4 : (1 : Int) ≤ ρ 4 ∧ ρ 4 ≤ 1 := zRnA hr 4
  have f0 : (0 : Int) ≤ ρ 5 + -ρ 1 + (-1) := zAllA hf 0
  obtain ⟨w_0, w_1, w_2⟩ : (ρ 4 ≠ 0) ∧ (¬ (ρ 1 < 0)) ∧ (ρ 1 < ρ 5) := ⟨by omega, by omega, by omega⟩
  have m2 : γ 0 15 0 59 = ρ 4 := zAllA hm 2
  have m3 : γ 0 97 0 (ρ 0) = ρ 5 := zAllA hm 3
  have m5 : γ 0 98 0 (ρ 1 + 8 * ρ 0) = ρ 6 := zAllA hm 5
  have l0 : sn79 [ρ 0, ρ 3] (γ 0) 0 1 (γ 1) := hS79 _ _ _ _ _ (zAllA hl 0)
  have l1 : sn1 [0, ρ 2] (γ 1) 0 0 (γ 2) := hS1 _ _ _ _ _ (zAllA hl 1)
  show sn82 [ρ 0, ρ 1, ρ 2, ρ 3] (γ 0) 0 (ρ 6) (γ 2)
  refine Eq.symm ?_
  show fn82 [ρ 0, ρ 1] (γ 0) = _
  unfold fn82
  refine zLV (ρ 0) rfl (zLV (ρ 1) rfl (zLE m2 (zIP w_0 (zLE (show fn79 [ρ 0] (γ 0) = (0, 1, γ 1) from l0.symm) (zLV (γ 1) rfl (zIP zQ1_ (zIN w_1 ?_)))))))
  refine zLE m3 (zIP w_2 (zLE (show fn1 [0] (γ 1) = (0, 0, γ 2) from l1.symm) (zLV (γ 2) rfl (zLE m5 ?_))))
  rfl
set_option maxRecDepth 100000 in
theorem vn82_3 {S : Nat → zSpc} (hS1 : zIm S 1 sn1) (hS79 : zIm S 79 sn79) {a : List Int} {g : rHp} : ∀ (ρ : Nat → Int) (γ : Nat → rHp), zO 4 S a g q82_3 ρ γ → zGl (fun _ _ _ => True) (sn82 a g) q82_3 ρ γ := by
  intro ρ γ h
  obtain ⟨ha, hg, hr, hf, hm, hc, hl⟩ := h
  have ha : a = [ρ 0, ρ 1, ρ 2, ρ 3] := ha
  subst ha
  subst hg
  have r1 : (0 : Int) ≤ ρ 1 ∧ ρ 1 ≤ 2147483647 := zRnA hr 1
  have r4 : (1 : Int) ≤ ρ 4 ∧ ρ 4 ≤ 1 := zRnA hr 4
  have f0 : (0 : Int) ≤ -ρ 5 + ρ 1 := zAllA hf 0
  obtain ⟨w_0, w_1, w_2⟩ : (ρ 4 ≠ 0) ∧ (¬ (ρ 1 < 0)) ∧ (¬ (ρ 1 < ρ 5)) := ⟨by omega, by omega, by omega⟩
  have m2 : γ 0 15 0 59 = ρ 4 := zAllA hm 2
  have m3 : γ 0 97 0 (ρ 0) = ρ 5 := zAllA hm 3
  have l0 : sn79 [ρ 0, ρ 3] (γ 0) 0 1 (γ 1) := hS79 _ _ _ _ _ (zAllA hl 0)
  have l1 : sn1 [2, ρ 2] (γ 1) 0 1 (γ 2) := hS1 _ _ _ _ _ (zAllA hl 1)
  show sn82 [ρ 0, ρ 1, ρ 2, ρ 3] (γ 0) 0 0 (γ 2)
  refine Eq.symm ?_
  show fn82 [ρ 0, ρ 1] (γ 0) = _
  unfold fn82
  refine zLV (ρ 0) rfl (zLV (ρ 1) rfl (zLE m2 (zIP w_0 (zLE (show fn79 [ρ 0] (γ 0) = (0, 1, γ 1) from l0.symm) (zLV (γ 1) rfl (zIP zQ1_ (zIN w_1 ?_)))))))
  refine zLE m3 (zIN w_2 (zLE (show fn1 [2] (γ 1) = (0, 1, γ 2) from l1.symm) (zLV (γ 2) rfl ?_)))
  rfl
set_option maxRecDepth 100000 in
theorem vn82_4 {S : Nat → zSpc} (hS1 : zIm S 1 sn1) (hS79 : zIm S 79 sn79) {a : List Int} {g : rHp} : ∀ (ρ : Nat → Int) (γ : Nat → rHp), zO 4 S a g q82_4 ρ γ → zGl (fun _ _ _ => True) (sn82 a g) q82_4 ρ γ := by
  intro ρ γ h
  obtain ⟨ha, hg, hr, hf, hm, hc, hl⟩ := h
  have ha : a = [ρ 0, ρ 1, ρ 2, ρ 3] := ha
  subst ha
  subst hg
  have r4 : (0 : Int) ≤ ρ 4 ∧ ρ 4 ≤ 0 := zRnA hr 4
  have w_0 : ¬ (ρ 4 ≠ 0) := by omega
  have m2 : γ 0 15 0 59 = ρ 4 := zAllA hm 2
  have l0 : sn1 [1, ρ 2] (γ 0) 0 1 (γ 1) := hS1 _ _ _ _ _ (zAllA hl 0)
  show sn82 [ρ 0, ρ 1, ρ 2, ρ 3] (γ 0) 0 0 (γ 1)
  refine Eq.symm ?_
  show fn82 [ρ 0, ρ 1] (γ 0) = _
  unfold fn82
  refine zLV (ρ 0) rfl (zLV (ρ 1) rfl (zLE m2 (zIN w_0 (zLE (show fn1 [1] (γ 0) = (0, 1, γ 1) from l0.symm) (zLV (γ 1) rfl ?_)))))
  rfl
set_option maxRecDepth 100000 in
theorem yn82 {S : Nat → zSpc} (hS1 : zIm S 1 sn1) (hS79 : zIm S 79 sn79) : ∀ x g o v gz, zSem uW uT w82_.2.2.2.1 w82_.2.2.1.1.length S q82 (fun i => q82a.getD i []) (zNA a82_) x g o v gz → sn82 x g o v gz := by
  intro a g o v gz h
  exact zSem_all (l0 := q82) (las := q82a) (S := S) (J := (fun _ _ _ => True)) (P := sn82 a g) (fun _ => (show zAll _ [q82_0, q82_1, q82_2, q82_3, q82_4] from (zAll_c (vn82_0 hS1 hS79) (zAll_c (vn82_1 hS1 hS79) (zAll_c (vn82_2 hS1 hS79) (zAll_c (vn82_3 hS1 hS79) (zAll_c (vn82_4 hS1 hS79) zAll_n))))))) (fun _ => (show zAllI _ 0 [] from trivial)) h
set_option maxRecDepth 100000 in
theorem vn83_0 {S : Nat → zSpc} (hS1 : zIm S 1 sn1) {a : List Int} {g : rHp} : ∀ (ρ : Nat → Int) (γ : Nat → rHp), zO 3 S a g q83_0 ρ γ → zGl (fun _ _ _ => True) (sn83 a g) q83_0 ρ γ := by
  intro ρ γ h
  obtain ⟨ha, hg, hr, hf, hm, hc, hl⟩ := h
  have ha : a = [ρ 0, ρ 1, ρ 2] := ha
  subst ha
  subst hg
  have r0 : ((-2147483648) : Int) ≤ ρ 0 ∧ ρ 0 ≤ (-1) := zRnA hr 0
  have r3 : (1 : Int) ≤ ρ 3 ∧ ρ 3 ≤ 1 := zRnA hr 3
  obtain ⟨w_0, w_1⟩ : (ρ 3 ≠ 0) ∧ (ρ 0 < 0) := ⟨by omega, by omega⟩
  have m1 : γ 0 15 0 13 = ρ 2 := zAllA hm 1
  have m2 : γ 0 15 0 59 = ρ 3 := zAllA hm 2
  have l0 : sn1 [2, ρ 1] (γ 0) 0 1 (γ 1) := hS1 _ _ _ _ _ (zAllA hl 0)
  show sn83 [ρ 0, ρ 1, ρ 2] (γ 0) 0 0 (γ 1)
  refine Eq.symm ?_
  show fn83 [ρ 0] (γ 0) = _
  unfold fn83
  refine zLV (ρ 0) rfl (zLE m1 (zLE m2 (zIP w_0 (zIP w_1 (zLE (show fn1 [2] (γ 0) = (0, 1, γ 1) from l0.symm) (zLV (γ 1) rfl ?_))))))
  rfl
set_option maxRecDepth 100000 in
theorem vn83_1 {S : Nat → zSpc} (hS1 : zIm S 1 sn1) {a : List Int} {g : rHp} : ∀ (ρ : Nat → Int) (γ : Nat → rHp), zO 3 S a g q83_1 ρ γ → zGl (fun _ _ _ => True) (sn83 a g) q83_1 ρ γ := by
  intro ρ γ h
  obtain ⟨ha, hg, hr, hf, hm, hc, hl⟩ := h
  have ha : a = [ρ 0, ρ 1, ρ 2] := ha
  subst ha
  subst hg
  have r0 : (0 : Int) ≤ ρ 0 ∧ ρ 0 ≤ 2147483647 := zRnA hr 0
  have r3 : (1 : Int) ≤ ρ 3 ∧ ρ 3 ≤ 1 := zRnA hr 3
  have f0 : (0 : Int) ≤ ρ 2 + -ρ 0 + (-1) := zAllA hf 0
  obtain ⟨w_0, w_1, w_2⟩ : (ρ 3 ≠ 0) ∧ (¬ (ρ 0 < 0)) ∧ (ρ 0 < ρ 2) := ⟨by omega, by omega, by omega⟩
  have m1 : γ 0 15 0 13 = ρ 2 := zAllA hm 1
  have m2 : γ 0 15 0 59 = ρ 3 := zAllA hm 2
  have m4 : γ 0 92 0 (ρ 0) = ρ 4 := zAllA hm 4
  have l0 : sn1 [0, ρ 1] (γ 0) 0 0 (γ 1) := hS1 _ _ _ _ _ (zAllA hl 0)
  show sn83 [ρ 0, ρ 1, ρ 2] (γ 0) 0 (ρ 4) (γ 1)
  refine Eq.symm ?_
  show fn83 [ρ 0] (γ 0) = _
  unfold fn83
  refine zLV (ρ 0) rfl (zLE m1 (zLE m2 (zIP w_0 (zIN w_1 (zIP w_2 (zLE (show fn1 [0] (γ 0) = (0, 0, γ 1) from l0.symm) (zLV (γ 1) rfl ?_)))))))
  refine zLE m4 ?_
  rfl
set_option maxRecDepth 100000 in
theorem vn83_2 {S : Nat → zSpc} (hS1 : zIm S 1 sn1) {a : List Int} {g : rHp} : ∀ (ρ : Nat → Int) (γ : Nat → rHp), zO 3 S a g q83_2 ρ γ → zGl (fun _ _ _ => True) (sn83 a g) q83_2 ρ γ := by
  intro ρ γ h
  obtain ⟨ha, hg, hr, hf, hm, hc, hl⟩ := h
  have ha : a = [ρ 0, ρ 1, ρ 2] := ha
  subst ha
  subst hg
  have r0 : (0 : Int) ≤ ρ 0 ∧ ρ 0 ≤ 2147483647 := zRnA hr 0
  have r3 : (1 : Int) ≤ ρ 3 ∧ ρ 3 ≤ 1 := zRnA hr 3
  have f0 : (0 : Int) ≤ -ρ 2 + ρ 0 := zAllA hf 0
  obtain ⟨w_0, w_1, w_2⟩ : (ρ 3 ≠ 0) ∧ (¬ (ρ 0 < 0)) ∧ (¬ (ρ 0 < ρ 2)) := ⟨by omega, by omega, by omega⟩
  have m1 : γ 0 15 0 13 = ρ 2 := zAllA hm 1
  have m2 : γ 0 15 0 59 = ρ 3 := zAllA hm 2
  have l0 : sn1 [2, ρ 1] (γ 0) 0 1 (γ 1) := hS1 _ _ _ _ _ (zAllA hl 0)
  show sn83 [ρ 0, ρ 1, ρ 2] (γ 0) 0 0 (γ 1)
  refine Eq.symm ?_
  show fn83 [ρ 0] (γ 0) = _
  unfold fn83
  refine zLV (ρ 0) rfl (zLE m1 (zLE m2 (zIP w_0 (zIN w_1 (zIN w_2 (zLE (show fn1 [2] (γ 0) = (0, 1, γ 1) from l0.symm) (zLV (γ 1) rfl ?_)))))))
  rfl
set_option maxRecDepth 100000 in
theorem vn83_3 {S : Nat → zSpc} (hS1 : zIm S 1 sn1) {a : List Int} {g : rHp} : ∀ (ρ : Nat → Int) (γ : Nat → rHp), zO 3 S a g q83_3 ρ γ → zGl (fun _ _ _ => True) (sn83 a g) q83_3 ρ γ := by
  intro ρ γ h
  obtain ⟨ha, hg, hr, hf, hm, hc, hl⟩ := h
  have ha : a = [ρ 0, ρ 1, ρ 2] := ha
  subst ha
  subst hg
  have r3 : (0 : Int) ≤ ρ 3 ∧ ρ 3 ≤ 0 := zRnA hr 3
  have w_0 : ¬ (ρ 3 ≠ 0) := by omega
  have m1 : γ 0 15 0 13 = ρ 2 := zAllA hm 1
  have m2 : γ 0 15 0 59 = ρ 3 := zAllA hm 2
  have l0 : sn1 [1, ρ 1] (γ 0) 0 1 (γ 1) := hS1 _ _ _ _ _ (zAllA hl 0)
  show sn83 [ρ 0, ρ 1, ρ 2] (γ 0) 0 0 (γ 1)
  refine Eq.symm ?_
  show fn83 [ρ 0] (γ 0) = _
  unfold fn83
  refine zLV (ρ 0) rfl (zLE m1 (zLE m2 (zIN w_0 (zLE (show fn1 [1] (γ 0) = (0, 1, γ 1) from l0.symm) (zLV (γ 1) rfl ?_)))))
  rfl
set_option maxRecDepth 100000 in
theorem yn83 {S : Nat → zSpc} (hS1 : zIm S 1 sn1) : ∀ x g o v gz, zSem uW uT w83_.2.2.2.1 w83_.2.2.1.1.length S q83 (fun i => q83a.getD i []) (zNA a83_) x g o v gz → sn83 x g o v gz := by
  intro a g o v gz h
  exact zSem_all (l0 := q83) (las := q83a) (S := S) (J := (fun _ _ _ => True)) (P := sn83 a g) (fun _ => (show zAll _ [q83_0, q83_1, q83_2, q83_3] from (zAll_c (vn83_0 hS1) (zAll_c (vn83_1 hS1) (zAll_c (vn83_2 hS1) (zAll_c (vn83_3 hS1) zAll_n)))))) (fun _ => (show zAllI _ 0 [] from trivial)) h
set_option maxRecDepth 100000 in
theorem vn84_0 {S : Nat → zSpc} (hS1 : zIm S 1 sn1) {a : List Int} {g : rHp} : ∀ (ρ : Nat → Int) (γ : Nat → rHp), zO 12 S a g q84_0 ρ γ → zGl (fun _ _ _ => True) (sn84 a g) q84_0 ρ γ := by
  intro ρ γ h
  obtain ⟨ha, hg, hr, hf, hm, hc, hl⟩ := h
  have ha : a = [ρ 0, ρ 1, ρ 2, ρ 3, ρ 4, ρ 5, ρ 6, ρ 7, ρ 8, ρ 9, ρ 10, ρ 11] := ha
  subst ha
  subst hg
  have r0 : ((-2147483648) : Int) ≤ ρ 0 ∧ ρ 0 ≤ (-1) := zRnA hr 0
  have w_0 : ρ 0 < 0 := by omega
  have m1 : γ 0 15 0 3 = ρ 2 := zAllA hm 1
  have m2 : γ 0 15 0 4 = ρ 3 := zAllA hm 2
  have m3 : γ 0 15 0 8 = ρ 4 := zAllA hm 3
  have m4 : γ 0 15 0 13 = ρ 5 := zAllA hm 4
  have m5 : γ 0 15 0 17 = ρ 6 := zAllA hm 5
  have m6 : γ 0 15 0 32 = ρ 7 := zAllA hm 6
  have m7 : γ 0 15 0 61 = ρ 8 := zAllA hm 7
  have m8 : γ 0 15 0 71 = ρ 9 := zAllA hm 8
  have m9 : γ 0 15 0 74 = ρ 10 := zAllA hm 9
  have m10 : γ 0 15 0 75 = ρ 11 := zAllA hm 10
  have l0 : sn1 [1, ρ 1] (γ 0) 0 1 (γ 1) := hS1 _ _ _ _ _ (zAllA hl 0)
  show sn84 [ρ 0, ρ 1, ρ 2, ρ 3, ρ 4, ρ 5, ρ 6, ρ 7, ρ 8, ρ 9, ρ 10, ρ 11] (γ 0) 0 0 (γ 1)
  refine Eq.symm ?_
  show fn84 [ρ 0] (γ 0) = _
  unfold fn84
  refine zLV (ρ 0) rfl (zLE m1 (zLE m2 (zLE m3 (zLE m4 (zLE m5 (zLE m6 (zLE m7 ?_)))))))
  refine zLE m8 (zLE m9 (zLE m10 (zIP w_0 (zLE (show fn1 [1] (γ 0) = (0, 1, γ 1) from l0.symm) (zLV (γ 1) rfl ?_)))))
  rfl
set_option maxRecDepth 100000 in
theorem vn84_1 {S : Nat → zSpc} (hS1 : zIm S 1 sn1) {a : List Int} {g : rHp} : ∀ (ρ : Nat → Int) (γ : Nat → rHp), zO 12 S a g q84_1 ρ γ → zGl (fun _ _ _ => True) (sn84 a g) q84_1 ρ γ := by
  intro ρ γ h
  obtain ⟨ha, hg, hr, hf, hm, hc, hl⟩ := h
  have ha : a = [ρ 0, ρ 1, ρ 2, ρ 3, ρ 4, ρ 5, ρ 6, ρ 7, ρ 8, ρ 9, ρ 10, ρ 11] := ha
  subst ha
  subst hg
  have r0 : (9 : Int) ≤ ρ 0 ∧ ρ 0 ≤ 9 := zRnA hr 0
  obtain ⟨w_0, w_1, w_2⟩ : (¬ (ρ 0 < 0)) ∧ (ρ 0 ≤ 9) ∧ (ρ 0 = 9) := ⟨by omega, by omega, by omega⟩
  have m1 : γ 0 15 0 3 = ρ 2 := zAllA hm 1
  have m2 : γ 0 15 0 4 = ρ 3 := zAllA hm 2
  have m3 : γ 0 15 0 8 = ρ 4 := zAllA hm 3
  have m4 : γ 0 15 0 13 = ρ 5 := zAllA hm 4
  have m5 : γ 0 15 0 17 = ρ 6 := zAllA hm 5
  have m6 : γ 0 15 0 32 = ρ 7 := zAllA hm 6
  have m7 : γ 0 15 0 61 = ρ 8 := zAllA hm 7
  have m8 : γ 0 15 0 71 = ρ 9 := zAllA hm 8
  have m9 : γ 0 15 0 74 = ρ 10 := zAllA hm 9
  have m10 : γ 0 15 0 75 = ρ 11 := zAllA hm 10
  have l0 : sn1 [0, ρ 1] (γ 0) 0 0 (γ 1) := hS1 _ _ _ _ _ (zAllA hl 0)
  show sn84 [ρ 0, ρ 1, ρ 2, ρ 3, ρ 4, ρ 5, ρ 6, ρ 7, ρ 8, ρ 9, ρ 10, ρ 11] (γ 0) 0 (ρ 4) (γ 1)
  refine Eq.symm ?_
  show fn84 [ρ 0] (γ 0) = _
  unfold fn84
  refine zLV (ρ 0) rfl (zLE m1 (zLE m2 (zLE m3 (zLE m4 (zLE m5 (zLE m6 (zLE m7 ?_)))))))
  refine zLE m8 (zLE m9 (zLE m10 (zIN w_0 (zIP w_1 (zLE (show fn1 [0] (γ 0) = (0, 0, γ 1) from l0.symm) (zLV (γ 1) rfl (zIP w_2 ?_)))))))
  rfl
set_option maxRecDepth 100000 in
theorem vn84_2 {S : Nat → zSpc} (hS1 : zIm S 1 sn1) {a : List Int} {g : rHp} : ∀ (ρ : Nat → Int) (γ : Nat → rHp), zO 12 S a g q84_2 ρ γ → zGl (fun _ _ _ => True) (sn84 a g) q84_2 ρ γ := by
  intro ρ γ h
  obtain ⟨ha, hg, hr, hf, hm, hc, hl⟩ := h
  have ha : a = [ρ 0, ρ 1, ρ 2, ρ 3, ρ 4, ρ 5, ρ 6, ρ 7, ρ 8, ρ 9, ρ 10, ρ 11] := ha
  subst ha
  subst hg
  have r0 : (0 : Int) ≤ ρ 0 ∧ ρ 0 ≤ 0 := zRnA hr 0
  obtain ⟨w_0, w_1, w_2, w_3⟩ : (¬ (ρ 0 < 0)) ∧ (ρ 0 ≤ 9) ∧ (¬ (ρ 0 = 9)) ∧ (ρ 0 = 0) := ⟨by omega, by omega, by omega, by omega⟩
  have m1 : γ 0 15 0 3 = ρ 2 := zAllA hm 1
  have m2 : γ 0 15 0 4 = ρ 3 := zAllA hm 2
  have m3 : γ 0 15 0 8 = ρ 4 := zAllA hm 3
  have m4 : γ 0 15 0 13 = ρ 5 := zAllA hm 4
  have m5 : γ 0 15 0 17 = ρ 6 := zAllA hm 5
  have m6 : γ 0 15 0 32 = ρ 7 := zAllA hm 6
  have m7 : γ 0 15 0 61 = ρ 8 := zAllA hm 7
  have m8 : γ 0 15 0 71 = ρ 9 := zAllA hm 8
  have m9 : γ 0 15 0 74 = ρ 10 := zAllA hm 9
  have m10 : γ 0 15 0 75 = ρ 11 := zAllA hm 10
  have l0 : sn1 [0, ρ 1] (γ 0) 0 0 (γ 1) := hS1 _ _ _ _ _ (zAllA hl 0)
  show sn84 [ρ 0, ρ 1, ρ 2, ρ 3, ρ 4, ρ 5, ρ 6, ρ 7, ρ 8, ρ 9, ρ 10, ρ 11] (γ 0) 0 (ρ 2) (γ 1)
  refine Eq.symm ?_
  show fn84 [ρ 0] (γ 0) = _
  unfold fn84
  refine zLV (ρ 0) rfl (zLE m1 (zLE m2 (zLE m3 (zLE m4 (zLE m5 (zLE m6 (zLE m7 ?_)))))))
  refine zLE m8 (zLE m9 (zLE m10 (zIN w_0 (zIP w_1 (zLE (show fn1 [0] (γ 0) = (0, 0, γ 1) from l0.symm) (zLV (γ 1) rfl (zIN w_2 ?_)))))))
  refine zIP w_3 ?_
  rfl
set_option maxRecDepth 100000 in
theorem vn84_3 {S : Nat → zSpc} (hS1 : zIm S 1 sn1) {a : List Int} {g : rHp} : ∀ (ρ : Nat → Int) (γ : Nat → rHp), zO 12 S a g q84_3 ρ γ → zGl (fun _ _ _ => True) (sn84 a g) q84_3 ρ γ := by
  intro ρ γ h
  obtain ⟨ha, hg, hr, hf, hm, hc, hl⟩ := h
  have ha : a = [ρ 0, ρ 1, ρ 2, ρ 3, ρ 4, ρ 5, ρ 6, ρ 7, ρ 8, ρ 9, ρ 10, ρ 11] := ha
  subst ha
  subst hg
  have r0 : (1 : Int) ≤ ρ 0 ∧ ρ 0 ≤ 1 := zRnA hr 0
  obtain ⟨w_0, w_1, w_2, w_3, w_4⟩ : (¬ (ρ 0 < 0)) ∧ (ρ 0 ≤ 9) ∧ (¬ (ρ 0 = 9)) ∧ (¬ (ρ 0 = 0)) ∧ (ρ 0 = 1) := ⟨by omega, by omega, by omega, by omega, by omega⟩
  have m1 : γ 0 15 0 3 = ρ 2 := zAllA hm 1
  have m2 : γ 0 15 0 4 = ρ 3 := zAllA hm 2
  have m3 : γ 0 15 0 8 = ρ 4 := zAllA hm 3
  have m4 : γ 0 15 0 13 = ρ 5 := zAllA hm 4
  have m5 : γ 0 15 0 17 = ρ 6 := zAllA hm 5
  have m6 : γ 0 15 0 32 = ρ 7 := zAllA hm 6
  have m7 : γ 0 15 0 61 = ρ 8 := zAllA hm 7
  have m8 : γ 0 15 0 71 = ρ 9 := zAllA hm 8
  have m9 : γ 0 15 0 74 = ρ 10 := zAllA hm 9
  have m10 : γ 0 15 0 75 = ρ 11 := zAllA hm 10
  have l0 : sn1 [0, ρ 1] (γ 0) 0 0 (γ 1) := hS1 _ _ _ _ _ (zAllA hl 0)
  show sn84 [ρ 0, ρ 1, ρ 2, ρ 3, ρ 4, ρ 5, ρ 6, ρ 7, ρ 8, ρ 9, ρ 10, ρ 11] (γ 0) 0 (ρ 3) (γ 1)
  refine Eq.symm ?_
  show fn84 [ρ 0] (γ 0) = _
  unfold fn84
  refine zLV (ρ 0) rfl (zLE m1 (zLE m2 (zLE m3 (zLE m4 (zLE m5 (zLE m6 (zLE m7 ?_)))))))
  refine zLE m8 (zLE m9 (zLE m10 (zIN w_0 (zIP w_1 (zLE (show fn1 [0] (γ 0) = (0, 0, γ 1) from l0.symm) (zLV (γ 1) rfl (zIN w_2 ?_)))))))
  refine zIN w_3 (zIP w_4 ?_)
  rfl
set_option maxRecDepth 100000 in
theorem vn84_4 {S : Nat → zSpc} (hS1 : zIm S 1 sn1) {a : List Int} {g : rHp} : ∀ (ρ : Nat → Int) (γ : Nat → rHp), zO 12 S a g q84_4 ρ γ → zGl (fun _ _ _ => True) (sn84 a g) q84_4 ρ γ := by
  intro ρ γ h
  obtain ⟨ha, hg, hr, hf, hm, hc, hl⟩ := h
  have ha : a = [ρ 0, ρ 1, ρ 2, ρ 3, ρ 4, ρ 5, ρ 6, ρ 7, ρ 8, ρ 9, ρ 10, ρ 11] := ha
  subst ha
  subst hg
  have r0 : (2 : Int) ≤ ρ 0 ∧ ρ 0 ≤ 2 := zRnA hr 0
  obtain ⟨w_0, w_1, w_2, w_3, w_4, w_5⟩ : (¬ (ρ 0 < 0)) ∧ (ρ 0 ≤ 9) ∧ (¬ (ρ 0 = 9)) ∧ (¬ (ρ 0 = 0)) ∧ (¬ (ρ 0 = 1)) ∧ (ρ 0 = 2) := ⟨by omega, by omega, by omega, by omega, by omega, by omega⟩
  have m1 : γ 0 15 0 3 = ρ 2 := zAllA hm 1
  have m2 : γ 0 15 0 4 = ρ 3 := zAllA hm 2
  have m3 : γ 0 15 0 8 = ρ 4 := zAllA hm 3
  have m4 : γ 0 15 0 13 = ρ 5 := zAllA hm 4
  have m5 : γ 0 15 0 17 = ρ 6 := zAllA hm 5
  have m6 : γ 0 15 0 32 = ρ 7 := zAllA hm 6
  have m7 : γ 0 15 0 61 = ρ 8 := zAllA hm 7
  have m8 : γ 0 15 0 71 = ρ 9 := zAllA hm 8
  have m9 : γ 0 15 0 74 = ρ 10 := zAllA hm 9
  have m10 : γ 0 15 0 75 = ρ 11 := zAllA hm 10
  have l0 : sn1 [0, ρ 1] (γ 0) 0 0 (γ 1) := hS1 _ _ _ _ _ (zAllA hl 0)
  show sn84 [ρ 0, ρ 1, ρ 2, ρ 3, ρ 4, ρ 5, ρ 6, ρ 7, ρ 8, ρ 9, ρ 10, ρ 11] (γ 0) 0 (ρ 7) (γ 1)
  refine Eq.symm ?_
  show fn84 [ρ 0] (γ 0) = _
  unfold fn84
  refine zLV (ρ 0) rfl (zLE m1 (zLE m2 (zLE m3 (zLE m4 (zLE m5 (zLE m6 (zLE m7 ?_)))))))
  refine zLE m8 (zLE m9 (zLE m10 (zIN w_0 (zIP w_1 (zLE (show fn1 [0] (γ 0) = (0, 0, γ 1) from l0.symm) (zLV (γ 1) rfl (zIN w_2 ?_)))))))
  refine zIN w_3 (zIN w_4 (zIP w_5 ?_))
  rfl
set_option maxRecDepth 100000 in
theorem vn84_5 {S : Nat → zSpc} (hS1 : zIm S 1 sn1) {a : List Int} {g : rHp} : ∀ (ρ : Nat → Int) (γ : Nat → rHp), zO 12 S a g q84_5 ρ γ → zGl (fun _ _ _ => True) (sn84 a g) q84_5 ρ γ := by
  intro ρ γ h
  obtain ⟨ha, hg, hr, hf, hm, hc, hl⟩ := h
  have ha : a = [ρ 0, ρ 1, ρ 2, ρ 3, ρ 4, ρ 5, ρ 6, ρ 7, ρ 8, ρ 9, ρ 10, ρ 11] := ha
  subst ha
  subst hg
  have r0 : (3 : Int) ≤ ρ 0 ∧ ρ 0 ≤ 3 := zRnA hr 0
  obtain ⟨w_0, w_1, w_2, w_3, w_4, w_5, w_6⟩ : (¬ (ρ 0 < 0)) ∧ (ρ 0 ≤ 9) ∧ (¬ (ρ 0 = 9)) ∧ (¬ (ρ 0 = 0)) ∧ (¬ (ρ 0 = 1)) ∧ (¬ (ρ 0 = 2)) ∧ (ρ 0 = 3) := ⟨by omega, by omega, by omega, by omega, by omega, by omega, by omega⟩
  have m1 : γ 0 15 0 3 = ρ 2 := zAllA hm 1
  have m2 : γ 0 15 0 4 = ρ 3 := zAllA hm 2
  have m3 : γ 0 15 0 8 = ρ 4 := zAllA hm 3
  have m4 : γ 0 15 0 13 = ρ 5 := zAllA hm 4
  have m5 : γ 0 15 0 17 = ρ 6 := zAllA hm 5
  have m6 : γ 0 15 0 32 = ρ 7 := zAllA hm 6
  have m7 : γ 0 15 0 61 = ρ 8 := zAllA hm 7
  have m8 : γ 0 15 0 71 = ρ 9 := zAllA hm 8
  have m9 : γ 0 15 0 74 = ρ 10 := zAllA hm 9
  have m10 : γ 0 15 0 75 = ρ 11 := zAllA hm 10
  have l0 : sn1 [0, ρ 1] (γ 0) 0 0 (γ 1) := hS1 _ _ _ _ _ (zAllA hl 0)
  show sn84 [ρ 0, ρ 1, ρ 2, ρ 3, ρ 4, ρ 5, ρ 6, ρ 7, ρ 8, ρ 9, ρ 10, ρ 11] (γ 0) 0 (ρ 6) (γ 1)
  refine Eq.symm ?_
  show fn84 [ρ 0] (γ 0) = _
  unfold fn84
  refine zLV (ρ 0) rfl (zLE m1 (zLE m2 (zLE m3 (zLE m4 (zLE m5 (zLE m6 (zLE m7 ?_)))))))
  refine zLE m8 (zLE m9 (zLE m10 (zIN w_0 (zIP w_1 (zLE (show fn1 [0] (γ 0) = (0, 0, γ 1) from l0.symm) (zLV (γ 1) rfl (zIN w_2 ?_)))))))
  refine zIN w_3 (zIN w_4 (zIN w_5 (zIP w_6 ?_)))
  rfl
set_option maxRecDepth 100000 in
theorem vn84_6 {S : Nat → zSpc} (hS1 : zIm S 1 sn1) {a : List Int} {g : rHp} : ∀ (ρ : Nat → Int) (γ : Nat → rHp), zO 12 S a g q84_6 ρ γ → zGl (fun _ _ _ => True) (sn84 a g) q84_6 ρ γ := by
  intro ρ γ h
  obtain ⟨ha, hg, hr, hf, hm, hc, hl⟩ := h
  have ha : a = [ρ 0, ρ 1, ρ 2, ρ 3, ρ 4, ρ 5, ρ 6, ρ 7, ρ 8, ρ 9, ρ 10, ρ 11] := ha
  subst ha
  subst hg
  have r0 : (4 : Int) ≤ ρ 0 ∧ ρ 0 ≤ 4 := zRnA hr 0
  obtain ⟨w_0, w_1, w_2, w_3, w_4, w_5, w_6, w_7⟩ : (¬ (ρ 0 < 0)) ∧ (ρ 0 ≤ 9) ∧ (¬ (ρ 0 = 9)) ∧ (¬ (ρ 0 = 0)) ∧ (¬ (ρ 0 = 1)) ∧ (¬ (ρ 0 = 2)) ∧ (¬ (ρ 0 = 3)) ∧ (ρ 0 = 4) := ⟨by omega, by omega, by omega, by omega, by omega, by omega, by omega, by omega⟩
  have m1 : γ 0 15 0 3 = ρ 2 := zAllA hm 1
  have m2 : γ 0 15 0 4 = ρ 3 := zAllA hm 2
  have m3 : γ 0 15 0 8 = ρ 4 := zAllA hm 3
  have m4 : γ 0 15 0 13 = ρ 5 := zAllA hm 4
  have m5 : γ 0 15 0 17 = ρ 6 := zAllA hm 5
  have m6 : γ 0 15 0 32 = ρ 7 := zAllA hm 6
  have m7 : γ 0 15 0 61 = ρ 8 := zAllA hm 7
  have m8 : γ 0 15 0 71 = ρ 9 := zAllA hm 8
  have m9 : γ 0 15 0 74 = ρ 10 := zAllA hm 9
  have m10 : γ 0 15 0 75 = ρ 11 := zAllA hm 10
  have l0 : sn1 [0, ρ 1] (γ 0) 0 0 (γ 1) := hS1 _ _ _ _ _ (zAllA hl 0)
  show sn84 [ρ 0, ρ 1, ρ 2, ρ 3, ρ 4, ρ 5, ρ 6, ρ 7, ρ 8, ρ 9, ρ 10, ρ 11] (γ 0) 0 (ρ 5) (γ 1)
  refine Eq.symm ?_
  show fn84 [ρ 0] (γ 0) = _
  unfold fn84
  refine zLV (ρ 0) rfl (zLE m1 (zLE m2 (zLE m3 (zLE m4 (zLE m5 (zLE m6 (zLE m7 ?_)))))))
  refine zLE m8 (zLE m9 (zLE m10 (zIN w_0 (zIP w_1 (zLE (show fn1 [0] (γ 0) = (0, 0, γ 1) from l0.symm) (zLV (γ 1) rfl (zIN w_2 ?_)))))))
  refine zIN w_3 (zIN w_4 (zIN w_5 (zIN w_6 (zIP w_7 ?_))))
  rfl
set_option maxRecDepth 100000 in
theorem vn84_7 {S : Nat → zSpc} (hS1 : zIm S 1 sn1) {a : List Int} {g : rHp} : ∀ (ρ : Nat → Int) (γ : Nat → rHp), zO 12 S a g q84_7 ρ γ → zGl (fun _ _ _ => True) (sn84 a g) q84_7 ρ γ := by
  intro ρ γ h
  obtain ⟨ha, hg, hr, hf, hm, hc, hl⟩ := h
  have ha : a = [ρ 0, ρ 1, ρ 2, ρ 3, ρ 4, ρ 5, ρ 6, ρ 7, ρ 8, ρ 9, ρ 10, ρ 11] := ha
  subst ha
  subst hg
  have r0 : (5 : Int) ≤ ρ 0 ∧ ρ 0 ≤ 5 := zRnA hr 0
  have r12 : (0 : Int) ≤ ρ 12 ∧ ρ 12 ≤ 0 := zRnA hr 12
  obtain ⟨w_0, w_1, w_2, w_3, w_4, w_5, w_6, w_7, w_8, w_9⟩ : (¬ (ρ 0 < 0)) ∧ (ρ 0 ≤ 9) ∧ (¬ (ρ 0 = 9)) ∧ (¬ (ρ 0 = 0)) ∧ (¬ (ρ 0 = 1)) ∧ (¬ (ρ 0 = 2)) ∧ (¬ (ρ 0 = 3)) ∧ (¬ (ρ 0 = 4)) ∧ (ρ 0 = 5) ∧ (ρ 12 = 0) := ⟨by omega, by omega, by omega, by omega, by omega, by omega, by omega, by omega, by omega, by omega⟩
  have m1 : γ 0 15 0 3 = ρ 2 := zAllA hm 1
  have m2 : γ 0 15 0 4 = ρ 3 := zAllA hm 2
  have m3 : γ 0 15 0 8 = ρ 4 := zAllA hm 3
  have m4 : γ 0 15 0 13 = ρ 5 := zAllA hm 4
  have m5 : γ 0 15 0 17 = ρ 6 := zAllA hm 5
  have m6 : γ 0 15 0 32 = ρ 7 := zAllA hm 6
  have m7 : γ 0 15 0 61 = ρ 8 := zAllA hm 7
  have m8 : γ 0 15 0 71 = ρ 9 := zAllA hm 8
  have m9 : γ 0 15 0 74 = ρ 10 := zAllA hm 9
  have m10 : γ 0 15 0 75 = ρ 11 := zAllA hm 10
  have m12 : γ 0 15 0 59 = ρ 12 := zAllA hm 12
  have l0 : sn1 [0, ρ 1] (γ 0) 0 0 (γ 1) := hS1 _ _ _ _ _ (zAllA hl 0)
  show sn84 [ρ 0, ρ 1, ρ 2, ρ 3, ρ 4, ρ 5, ρ 6, ρ 7, ρ 8, ρ 9, ρ 10, ρ 11] (γ 0) 0 0 (γ 1)
  refine Eq.symm ?_
  show fn84 [ρ 0] (γ 0) = _
  unfold fn84
  refine zLV (ρ 0) rfl (zLE m1 (zLE m2 (zLE m3 (zLE m4 (zLE m5 (zLE m6 (zLE m7 ?_)))))))
  refine zLE m8 (zLE m9 (zLE m10 (zIN w_0 (zIP w_1 (zLE (show fn1 [0] (γ 0) = (0, 0, γ 1) from l0.symm) (zLV (γ 1) rfl (zIN w_2 ?_)))))))
  refine zIN w_3 (zIN w_4 (zIN w_5 (zIN w_6 (zIN w_7 (zIP w_8 (zLE m12 (zIP w_9 ?_)))))))
  rfl
set_option maxRecDepth 100000 in
theorem vn84_8 {S : Nat → zSpc} (hS1 : zIm S 1 sn1) {a : List Int} {g : rHp} : ∀ (ρ : Nat → Int) (γ : Nat → rHp), zO 12 S a g q84_8 ρ γ → zGl (fun _ _ _ => True) (sn84 a g) q84_8 ρ γ := by
  intro ρ γ h
  obtain ⟨ha, hg, hr, hf, hm, hc, hl⟩ := h
  have ha : a = [ρ 0, ρ 1, ρ 2, ρ 3, ρ 4, ρ 5, ρ 6, ρ 7, ρ 8, ρ 9, ρ 10, ρ 11] := ha
  subst ha
  subst hg
  have r0 : (5 : Int) ≤ ρ 0 ∧ ρ 0 ≤ 5 := zRnA hr 0
  have r12 : (1 : Int) ≤ ρ 12 ∧ ρ 12 ≤ 1 := zRnA hr 12
  obtain ⟨w_0, w_1, w_2, w_3, w_4, w_5, w_6, w_7, w_8, w_9⟩ : (¬ (ρ 0 < 0)) ∧ (ρ 0 ≤ 9) ∧ (¬ (ρ 0 = 9)) ∧ (¬ (ρ 0 = 0)) ∧ (¬ (ρ 0 = 1)) ∧ (¬ (ρ 0 = 2)) ∧ (¬ (ρ 0 = 3)) ∧ (¬ (ρ 0 = 4)) ∧ (ρ 0 = 5) ∧ (¬ (ρ 12 = 0)) := ⟨by omega, by omega, by omega, by omega, by omega, by omega, by omega, by omega, by omega, by omega⟩
  have m1 : γ 0 15 0 3 = ρ 2 := zAllA hm 1
  have m2 : γ 0 15 0 4 = ρ 3 := zAllA hm 2
  have m3 : γ 0 15 0 8 = ρ 4 := zAllA hm 3
  have m4 : γ 0 15 0 13 = ρ 5 := zAllA hm 4
  have m5 : γ 0 15 0 17 = ρ 6 := zAllA hm 5
  have m6 : γ 0 15 0 32 = ρ 7 := zAllA hm 6
  have m7 : γ 0 15 0 61 = ρ 8 := zAllA hm 7
  have m8 : γ 0 15 0 71 = ρ 9 := zAllA hm 8
  have m9 : γ 0 15 0 74 = ρ 10 := zAllA hm 9
  have m10 : γ 0 15 0 75 = ρ 11 := zAllA hm 10
  have m12 : γ 0 15 0 59 = ρ 12 := zAllA hm 12
  have l0 : sn1 [0, ρ 1] (γ 0) 0 0 (γ 1) := hS1 _ _ _ _ _ (zAllA hl 0)
  show sn84 [ρ 0, ρ 1, ρ 2, ρ 3, ρ 4, ρ 5, ρ 6, ρ 7, ρ 8, ρ 9, ρ 10, ρ 11] (γ 0) 0 (ρ 9) (γ 1)
  refine Eq.symm ?_
  show fn84 [ρ 0] (γ 0) = _
  unfold fn84
  refine zLV (ρ 0) rfl (zLE m1 (zLE m2 (zLE m3 (zLE m4 (zLE m5 (zLE m6 (zLE m7 ?_)))))))
  refine zLE m8 (zLE m9 (zLE m10 (zIN w_0 (zIP w_1 (zLE (show fn1 [0] (γ 0) = (0, 0, γ 1) from l0.symm) (zLV (γ 1) rfl (zIN w_2 ?_)))))))
  refine zIN w_3 (zIN w_4 (zIN w_5 (zIN w_6 (zIN w_7 (zIP w_8 (zLE m12 (zIN w_9 ?_)))))))
  rfl
set_option maxRecDepth 100000 in
theorem vn84_9 {S : Nat → zSpc} (hS1 : zIm S 1 sn1) {a : List Int} {g : rHp} : ∀ (ρ : Nat → Int) (γ : Nat → rHp), zO 12 S a g q84_9 ρ γ → zGl (fun _ _ _ => True) (sn84 a g) q84_9 ρ γ := by
  intro ρ γ h
  obtain ⟨ha, hg, hr, hf, hm, hc, hl⟩ := h
  have ha : a = [ρ 0, ρ 1, ρ 2, ρ 3, ρ 4, ρ 5, ρ 6, ρ 7, ρ 8, ρ 9, ρ 10, ρ 11] := ha
  subst ha
  subst hg
  have r0 : (6 : Int) ≤ ρ 0 ∧ ρ 0 ≤ 6 := zRnA hr 0
  obtain ⟨w_0, w_1, w_2, w_3, w_4, w_5, w_6, w_7, w_8, w_9⟩ : (¬ (ρ 0 < 0)) ∧ (ρ 0 ≤ 9) ∧ (¬ (ρ 0 = 9)) ∧ (¬ (ρ 0 = 0)) ∧ (¬ (ρ 0 = 1)) ∧ (¬ (ρ 0 = 2)) ∧ (¬ (ρ 0 = 3)) ∧ (¬ (ρ 0 = 4)) ∧ (¬ (ρ 0 = 5)) ∧ (ρ 0 = 6) := ⟨by omega, by omega, by omega, by omega, by omega, by omega, by omega, by omega, by omega, by omega⟩
  have m1 : γ 0 15 0 3 = ρ 2 := zAllA hm 1
  have m2 : γ 0 15 0 4 = ρ 3 := zAllA hm 2
  have m3 : γ 0 15 0 8 = ρ 4 := zAllA hm 3
  have m4 : γ 0 15 0 13 = ρ 5 := zAllA hm 4
  have m5 : γ 0 15 0 17 = ρ 6 := zAllA hm 5
  have m6 : γ 0 15 0 32 = ρ 7 := zAllA hm 6
  have m7 : γ 0 15 0 61 = ρ 8 := zAllA hm 7
  have m8 : γ 0 15 0 71 = ρ 9 := zAllA hm 8
  have m9 : γ 0 15 0 74 = ρ 10 := zAllA hm 9
  have m10 : γ 0 15 0 75 = ρ 11 := zAllA hm 10
  have l0 : sn1 [0, ρ 1] (γ 0) 0 0 (γ 1) := hS1 _ _ _ _ _ (zAllA hl 0)
  show sn84 [ρ 0, ρ 1, ρ 2, ρ 3, ρ 4, ρ 5, ρ 6, ρ 7, ρ 8, ρ 9, ρ 10, ρ 11] (γ 0) 0 (ρ 10) (γ 1)
  refine Eq.symm ?_
  show fn84 [ρ 0] (γ 0) = _
  unfold fn84
  refine zLV (ρ 0) rfl (zLE m1 (zLE m2 (zLE m3 (zLE m4 (zLE m5 (zLE m6 (zLE m7 ?_)))))))
  refine zLE m8 (zLE m9 (zLE m10 (zIN w_0 (zIP w_1 (zLE (show fn1 [0] (γ 0) = (0, 0, γ 1) from l0.symm) (zLV (γ 1) rfl (zIN w_2 ?_)))))))
  refine zIN w_3 (zIN w_4 (zIN w_5 (zIN w_6 (zIN w_7 (zIN w_8 (zIP w_9 ?_))))))
  rfl
set_option maxRecDepth 100000 in
theorem vn84_10 {S : Nat → zSpc} (hS1 : zIm S 1 sn1) {a : List Int} {g : rHp} : ∀ (ρ : Nat → Int) (γ : Nat → rHp), zO 12 S a g q84_10 ρ γ → zGl (fun _ _ _ => True) (sn84 a g) q84_10 ρ γ := by
  intro ρ γ h
  obtain ⟨ha, hg, hr, hf, hm, hc, hl⟩ := h
  have ha : a = [ρ 0, ρ 1, ρ 2, ρ 3, ρ 4, ρ 5, ρ 6, ρ 7, ρ 8, ρ 9, ρ 10, ρ 11] := ha
  subst ha
  subst hg
  have r0 : (7 : Int) ≤ ρ 0 ∧ ρ 0 ≤ 7 := zRnA hr 0
  obtain ⟨w_0, w_1, w_2, w_3, w_4, w_5, w_6, w_7, w_8, w_9, w_10⟩ : (¬ (ρ 0 < 0)) ∧ (ρ 0 ≤ 9) ∧ (¬ (ρ 0 = 9)) ∧ (¬ (ρ 0 = 0)) ∧ (¬ (ρ 0 = 1)) ∧ (¬ (ρ 0 = 2)) ∧ (¬ (ρ 0 = 3)) ∧ (¬ (ρ 0 = 4)) ∧ (¬ (ρ 0 = 5)) ∧ (¬ (ρ 0 = 6)) ∧ (ρ 0 = 7) := ⟨by omega, by omega, by omega, by omega, by omega, by omega, by omega, by omega, by omega, by omega, by omega⟩
  have m1 : γ 0 15 0 3 = ρ 2 := zAllA hm 1
  have m2 : γ 0 15 0 4 = ρ 3 := zAllA hm 2
  have m3 : γ 0 15 0 8 = ρ 4 := zAllA hm 3
  have m4 : γ 0 15 0 13 = ρ 5 := zAllA hm 4
  have m5 : γ 0 15 0 17 = ρ 6 := zAllA hm 5
  have m6 : γ 0 15 0 32 = ρ 7 := zAllA hm 6
  have m7 : γ 0 15 0 61 = ρ 8 := zAllA hm 7
  have m8 : γ 0 15 0 71 = ρ 9 := zAllA hm 8
  have m9 : γ 0 15 0 74 = ρ 10 := zAllA hm 9
  have m10 : γ 0 15 0 75 = ρ 11 := zAllA hm 10
  have l0 : sn1 [0, ρ 1] (γ 0) 0 0 (γ 1) := hS1 _ _ _ _ _ (zAllA hl 0)
  show sn84 [ρ 0, ρ 1, ρ 2, ρ 3, ρ 4, ρ 5, ρ 6, ρ 7, ρ 8, ρ 9, ρ 10, ρ 11] (γ 0) 0 (ρ 11) (γ 1)
  refine Eq.symm ?_
  show fn84 [ρ 0] (γ 0) = _
  unfold fn84
  refine zLV (ρ 0) rfl (zLE m1 (zLE m2 (zLE m3 (zLE m4 (zLE m5 (zLE m6 (zLE m7 ?_)))))))
  refine zLE m8 (zLE m9 (zLE m10 (zIN w_0 (zIP w_1 (zLE (show fn1 [0] (γ 0) = (0, 0, γ 1) from l0.symm) (zLV (γ 1) rfl (zIN w_2 ?_)))))))
  refine zIN w_3 (zIN w_4 (zIN w_5 (zIN w_6 (zIN w_7 (zIN w_8 (zIN w_9 (zIP w_10 ?_)))))))
  rfl
set_option maxRecDepth 100000 in
theorem vn84_11 {S : Nat → zSpc} (hS1 : zIm S 1 sn1) {a : List Int} {g : rHp} : ∀ (ρ : Nat → Int) (γ : Nat → rHp), zO 12 S a g q84_11 ρ γ → zGl (fun _ _ _ => True) (sn84 a g) q84_11 ρ γ := by
  intro ρ γ h
  obtain ⟨ha, hg, hr, hf, hm, hc, hl⟩ := h
  have ha : a = [ρ 0, ρ 1, ρ 2, ρ 3, ρ 4, ρ 5, ρ 6, ρ 7, ρ 8, ρ 9, ρ 10, ρ 11] := ha
  subst ha
  subst hg
  have r0 : (8 : Int) ≤ ρ 0 ∧ ρ 0 ≤ 8 := zRnA hr 0
  have r12 : (0 : Int) ≤ ρ 12 ∧ ρ 12 ≤ 0 := zRnA hr 12
  obtain ⟨w_0, w_1, w_2, w_3, w_4, w_5, w_6, w_7, w_8, w_9, w_10, w_11⟩ : (¬ (ρ 0 < 0)) ∧ (ρ 0 ≤ 9) ∧ (¬ (ρ 0 = 9)) ∧ (¬ (ρ 0 = 0)) ∧ (¬ (ρ 0 = 1)) ∧ (¬ (ρ 0 = 2)) ∧ (¬ (ρ 0 = 3)) ∧ (¬ (ρ 0 = 4)) ∧ (¬ (ρ 0 = 5)) ∧ (¬ (ρ 0 = 6)) ∧ (¬ (ρ 0 = 7)) ∧ (ρ 12 = 0) := ⟨by omega, by omega, by omega, by omega, by omega, by omega, by omega, by omega, by omega, by omega, by omega, by omega⟩
  have m1 : γ 0 15 0 3 = ρ 2 := zAllA hm 1
  have m2 : γ 0 15 0 4 = ρ 3 := zAllA hm 2
  have m3 : γ 0 15 0 8 = ρ 4 := zAllA hm 3
  have m4 : γ 0 15 0 13 = ρ 5 := zAllA hm 4
  have m5 : γ 0 15 0 17 = ρ 6 := zAllA hm 5
  have m6 : γ 0 15 0 32 = ρ 7 := zAllA hm 6
  have m7 : γ 0 15 0 61 = ρ 8 := zAllA hm 7
  have m8 : γ 0 15 0 71 = ρ 9 := zAllA hm 8
  have m9 : γ 0 15 0 74 = ρ 10 := zAllA hm 9
  have m10 : γ 0 15 0 75 = ρ 11 := zAllA hm 10
  have m12 : γ 0 15 0 59 = ρ 12 := zAllA hm 12
  have l0 : sn1 [0, ρ 1] (γ 0) 0 0 (γ 1) := hS1 _ _ _ _ _ (zAllA hl 0)
  show sn84 [ρ 0, ρ 1, ρ 2, ρ 3, ρ 4, ρ 5, ρ 6, ρ 7, ρ 8, ρ 9, ρ 10, ρ 11] (γ 0) 0 0 (γ 1)
  refine Eq.symm ?_
  show fn84 [ρ 0] (γ 0) = _
  unfold fn84
  refine zLV (ρ 0) rfl (zLE m1 (zLE m2 (zLE m3 (zLE m4 (zLE m5 (zLE m6 (zLE m7 ?_)))))))
  refine zLE m8 (zLE m9 (zLE m10 (zIN w_0 (zIP w_1 (zLE (show fn1 [0] (γ 0) = (0, 0, γ 1) from l0.symm) (zLV (γ 1) rfl (zIN w_2 ?_)))))))
  refine zIN w_3 (zIN w_4 (zIN w_5 (zIN w_6 (zIN w_7 (zIN w_8 (zIN w_9 (zIN w_10 ?_)))))))
  refine zLE m12 (zIP w_11 ?_)
  rfl
set_option maxRecDepth 100000 in
theorem vn84_12 {S : Nat → zSpc} (hS1 : zIm S 1 sn1) {a : List Int} {g : rHp} : ∀ (ρ : Nat → Int) (γ : Nat → rHp), zO 12 S a g q84_12 ρ γ → zGl (fun _ _ _ => True) (sn84 a g) q84_12 ρ γ := by
  intro ρ γ h
  obtain ⟨ha, hg, hr, hf, hm, hc, hl⟩ := h
  have ha : a = [ρ 0, ρ 1, ρ 2, ρ 3, ρ 4, ρ 5, ρ 6, ρ 7, ρ 8, ρ 9, ρ 10, ρ 11] := ha
  subst ha
  subst hg
  have r0 : (8 : Int) ≤ ρ 0 ∧ ρ 0 ≤ 8 := zRnA hr 0
  have r12 : (1 : Int) ≤ ρ 12 ∧ ρ 12 ≤ 1 := zRnA hr 12
  obtain ⟨w_0, w_1, w_2, w_3, w_4, w_5, w_6, w_7, w_8, w_9, w_10, w_11⟩ : (¬ (ρ 0 < 0)) ∧ (ρ 0 ≤ 9) ∧ (¬ (ρ 0 = 9)) ∧ (¬ (ρ 0 = 0)) ∧ (¬ (ρ 0 = 1)) ∧ (¬ (ρ 0 = 2)) ∧ (¬ (ρ 0 = 3)) ∧ (¬ (ρ 0 = 4)) ∧ (¬ (ρ 0 = 5)) ∧ (¬ (ρ 0 = 6)) ∧ (¬ (ρ 0 = 7)) ∧ (¬ (ρ 12 = 0)) := ⟨by omega, by omega, by omega, by omega, by omega, by omega, by omega, by omega, by omega, by omega, by omega, by omega⟩
  have m1 : γ 0 15 0 3 = ρ 2 := zAllA hm 1
  have m2 : γ 0 15 0 4 = ρ 3 := zAllA hm 2
  have m3 : γ 0 15 0 8 = ρ 4 := zAllA hm 3
  have m4 : γ 0 15 0 13 = ρ 5 := zAllA hm 4
  have m5 : γ 0 15 0 17 = ρ 6 := zAllA hm 5
  have m6 : γ 0 15 0 32 = ρ 7 := zAllA hm 6
  have m7 : γ 0 15 0 61 = ρ 8 := zAllA hm 7
  have m8 : γ 0 15 0 71 = ρ 9 := zAllA hm 8
  have m9 : γ 0 15 0 74 = ρ 10 := zAllA hm 9
  have m10 : γ 0 15 0 75 = ρ 11 := zAllA hm 10
  have m12 : γ 0 15 0 59 = ρ 12 := zAllA hm 12
  have l0 : sn1 [0, ρ 1] (γ 0) 0 0 (γ 1) := hS1 _ _ _ _ _ (zAllA hl 0)
  show sn84 [ρ 0, ρ 1, ρ 2, ρ 3, ρ 4, ρ 5, ρ 6, ρ 7, ρ 8, ρ 9, ρ 10, ρ 11] (γ 0) 0 (ρ 8) (γ 1)
  refine Eq.symm ?_
  show fn84 [ρ 0] (γ 0) = _
  unfold fn84
  refine zLV (ρ 0) rfl (zLE m1 (zLE m2 (zLE m3 (zLE m4 (zLE m5 (zLE m6 (zLE m7 ?_)))))))
  refine zLE m8 (zLE m9 (zLE m10 (zIN w_0 (zIP w_1 (zLE (show fn1 [0] (γ 0) = (0, 0, γ 1) from l0.symm) (zLV (γ 1) rfl (zIN w_2 ?_)))))))
  refine zIN w_3 (zIN w_4 (zIN w_5 (zIN w_6 (zIN w_7 (zIN w_8 (zIN w_9 (zIN w_10 ?_)))))))
  refine zLE m12 (zIN w_11 ?_)
  rfl
set_option maxRecDepth 100000 in
theorem vn84_13 {S : Nat → zSpc} (hS1 : zIm S 1 sn1) {a : List Int} {g : rHp} : ∀ (ρ : Nat → Int) (γ : Nat → rHp), zO 12 S a g q84_13 ρ γ → zGl (fun _ _ _ => True) (sn84 a g) q84_13 ρ γ := by
  intro ρ γ h
  obtain ⟨ha, hg, hr, hf, hm, hc, hl⟩ := h
  have ha : a = [ρ 0, ρ 1, ρ 2, ρ 3, ρ 4, ρ 5, ρ 6, ρ 7, ρ 8, ρ 9, ρ 10, ρ 11] := ha
  subst ha
  subst hg
  have r0 : (10 : Int) ≤ ρ 0 ∧ ρ 0 ≤ 2147483647 := zRnA hr 0
  obtain ⟨w_0, w_1⟩ : (¬ (ρ 0 < 0)) ∧ (¬ (ρ 0 ≤ 9)) := ⟨by omega, by omega⟩
  have m1 : γ 0 15 0 3 = ρ 2 := zAllA hm 1
  have m2 : γ 0 15 0 4 = ρ 3 := zAllA hm 2
  have m3 : γ 0 15 0 8 = ρ 4 := zAllA hm 3
  have m4 : γ 0 15 0 13 = ρ 5 := zAllA hm 4
  have m5 : γ 0 15 0 17 = ρ 6 := zAllA hm 5
  have m6 : γ 0 15 0 32 = ρ 7 := zAllA hm 6
  have m7 : γ 0 15 0 61 = ρ 8 := zAllA hm 7
  have m8 : γ 0 15 0 71 = ρ 9 := zAllA hm 8
  have m9 : γ 0 15 0 74 = ρ 10 := zAllA hm 9
  have m10 : γ 0 15 0 75 = ρ 11 := zAllA hm 10
  have l0 : sn1 [1, ρ 1] (γ 0) 0 1 (γ 1) := hS1 _ _ _ _ _ (zAllA hl 0)
  show sn84 [ρ 0, ρ 1, ρ 2, ρ 3, ρ 4, ρ 5, ρ 6, ρ 7, ρ 8, ρ 9, ρ 10, ρ 11] (γ 0) 0 0 (γ 1)
  refine Eq.symm ?_
  show fn84 [ρ 0] (γ 0) = _
  unfold fn84
  refine zLV (ρ 0) rfl (zLE m1 (zLE m2 (zLE m3 (zLE m4 (zLE m5 (zLE m6 (zLE m7 ?_)))))))
  refine zLE m8 (zLE m9 (zLE m10 (zIN w_0 (zIN w_1 (zLE (show fn1 [1] (γ 0) = (0, 1, γ 1) from l0.symm) (zLV (γ 1) rfl ?_))))))
  rfl
set_option maxRecDepth 100000 in
theorem yn84 {S : Nat → zSpc} (hS1 : zIm S 1 sn1) : ∀ x g o v gz, zSem uW uT w84_.2.2.2.1 w84_.2.2.1.1.length S q84 (fun i => q84a.getD i []) (zNA a84_) x g o v gz → sn84 x g o v gz := by
  intro a g o v gz h
  exact zSem_all (l0 := q84) (las := q84a) (S := S) (J := (fun _ _ _ => True)) (P := sn84 a g) (fun _ => (show zAll _ [q84_0, q84_1, q84_2, q84_3, q84_4, q84_5, q84_6, q84_7, q84_8, q84_9, q84_10, q84_11, q84_12, q84_13] from (zAll_c (vn84_0 hS1) (zAll_c (vn84_1 hS1) (zAll_c (vn84_2 hS1) (zAll_c (vn84_3 hS1) (zAll_c (vn84_4 hS1) (zAll_c (vn84_5 hS1) (zAll_c (vn84_6 hS1) (zAll_c (vn84_7 hS1) (zAll_c (vn84_8 hS1) (zAll_c (vn84_9 hS1) (zAll_c (vn84_10 hS1) (zAll_c (vn84_11 hS1) (zAll_c (vn84_12 hS1) (zAll_c (vn84_13 hS1) zAll_n)))))))))))))))) (fun _ => (show zAllI _ 0 [] from trivial)) h
set_option maxRecDepth 100000 in
theorem vn85_0 {S : Nat → zSpc} (hS1 : zIm S 1 sn1) (hS80 : zIm S 80 sn80) {a : List Int} {g : rHp} : ∀ (ρ : Nat → Int) (γ : Nat → rHp), zO 5 S a g q85_0 ρ γ → zGl (fun _ _ _ => True) (sn85 a g) q85_0 ρ γ := by
  intro ρ γ h
  obtain ⟨ha, hg, hr, hf, hm, hc, hl⟩ := h
  have ha : a = [ρ 0, ρ 1, ρ 2, ρ 3, ρ 4] := ha
  subst ha
  subst hg
  have r0 : ((-2147483648) : Int) ≤ ρ 0 ∧ ρ 0 ≤ (-1) := zRnA hr 0
  have w_0 : ρ 0 < 0 := by omega
  have m1 : γ 0 15 0 93 = ρ 3 := zAllA hm 1
  have m2 : γ 0 15 0 95 = ρ 4 := zAllA hm 2
  have l0 : sn1 [1, ρ 2] (γ 0) 0 1 (γ 1) := hS1 _ _ _ _ _ (zAllA hl 0)
  show sn85 [ρ 0, ρ 1, ρ 2, ρ 3, ρ 4] (γ 0) 0 0 (γ 1)
  refine Eq.symm ?_
  show fn85 [ρ 0, ρ 1] (γ 0) = _
  unfold fn85
  refine zLV (ρ 0) rfl (zLV (ρ 1) rfl (zLE m1 (zLE m2 (zIP w_0 (zLE (show fn1 [1] (γ 0) = (0, 1, γ 1) from l0.symm) (zLV (γ 1) rfl ?_))))))
  rfl
set_option maxRecDepth 100000 in
theorem vn85_1 {S : Nat → zSpc} (hS1 : zIm S 1 sn1) (hS80 : zIm S 80 sn80) {a : List Int} {g : rHp} : ∀ (ρ : Nat → Int) (γ : Nat → rHp), zO 5 S a g q85_1 ρ γ → zGl (fun _ _ _ => True) (sn85 a g) q85_1 ρ γ := by
  intro ρ γ h
  obtain ⟨ha, hg, hr, hf, hm, hc, hl⟩ := h
  have ha : a = [ρ 0, ρ 1, ρ 2, ρ 3, ρ 4] := ha
  subst ha
  subst hg
  have r0 : (0 : Int) ≤ ρ 0 ∧ ρ 0 ≤ 2147483647 := zRnA hr 0
  have f0 : (0 : Int) ≤ -ρ 3 + ρ 0 := zAllA hf 0
  obtain ⟨w_0, w_1⟩ : (¬ (ρ 0 < 0)) ∧ (ρ 0 ≥ ρ 3) := ⟨by omega, by omega⟩
  have m1 : γ 0 15 0 93 = ρ 3 := zAllA hm 1
  have m2 : γ 0 15 0 95 = ρ 4 := zAllA hm 2
  have l0 : sn1 [1, ρ 2] (γ 0) 0 1 (γ 1) := hS1 _ _ _ _ _ (zAllA hl 0)
  show sn85 [ρ 0, ρ 1, ρ 2, ρ 3, ρ 4] (γ 0) 0 0 (γ 1)
  refine Eq.symm ?_
  show fn85 [ρ 0, ρ 1] (γ 0) = _
  unfold fn85
  refine zLV (ρ 0) rfl (zLV (ρ 1) rfl (zLE m1 (zLE m2 (zIN w_0 (zIP w_1 (zLE (show fn1 [1] (γ 0) = (0, 1, γ 1) from l0.symm) (zLV (γ 1) rfl ?_)))))))
  rfl
set_option maxRecDepth 100000 in
theorem vn85_2 {S : Nat → zSpc} (hS1 : zIm S 1 sn1) (hS80 : zIm S 80 sn80) {a : List Int} {g : rHp} : ∀ (ρ : Nat → Int) (γ : Nat → rHp), zO 5 S a g q85_2 ρ γ → zGl (fun _ _ _ => True) (sn85 a g) q85_2 ρ γ := by
  intro ρ γ h
  obtain ⟨ha, hg, hr, hf, hm, hc, hl⟩ := h
  have ha : a = [ρ 0, ρ 1, ρ 2, ρ 3, ρ 4] := ha
  subst ha
  subst hg
  have r0 : (100 : Int) ≤ ρ 0 ∧ ρ 0 ≤ 2147483647 := zRnA hr 0
  have f0 : (0 : Int) ≤ ρ 3 + -ρ 0 + (-1) := zAllA hf 0
  obtain ⟨w_0, w_1, w_2⟩ : (¬ (ρ 0 < 0)) ∧ (¬ (ρ 0 ≥ ρ 3)) ∧ (ρ 0 ≥ 100) := ⟨by omega, by omega, by omega⟩
  have m1 : γ 0 15 0 93 = ρ 3 := zAllA hm 1
  have m2 : γ 0 15 0 95 = ρ 4 := zAllA hm 2
  have l0 : sn1 [1, ρ 2] (γ 0) 0 1 (γ 1) := hS1 _ _ _ _ _ (zAllA hl 0)
  show sn85 [ρ 0, ρ 1, ρ 2, ρ 3, ρ 4] (γ 0) 0 0 (γ 1)
  refine Eq.symm ?_
  show fn85 [ρ 0, ρ 1] (γ 0) = _
  unfold fn85
  refine zLV (ρ 0) rfl (zLV (ρ 1) rfl (zLE m1 (zLE m2 (zIN w_0 (zIN w_1 (zIP w_2 (zLE (show fn1 [1] (γ 0) = (0, 1, γ 1) from l0.symm) ?_)))))))
  refine zLV (γ 1) rfl ?_
  rfl
set_option maxRecDepth 100000 in
theorem vn85_3 {S : Nat → zSpc} (hS1 : zIm S 1 sn1) (hS80 : zIm S 80 sn80) {a : List Int} {g : rHp} : ∀ (ρ : Nat → Int) (γ : Nat → rHp), zO 5 S a g q85_3 ρ γ → zGl (fun _ _ _ => True) (sn85 a g) q85_3 ρ γ := by
  intro ρ γ h
  obtain ⟨ha, hg, hr, hf, hm, hc, hl⟩ := h
  have ha : a = [ρ 0, ρ 1, ρ 2, ρ 3, ρ 4] := ha
  subst ha
  subst hg
  have r0 : (0 : Int) ≤ ρ 0 ∧ ρ 0 ≤ 99 := zRnA hr 0
  have r1 : ((-2147483648) : Int) ≤ ρ 1 ∧ ρ 1 ≤ (-1) := zRnA hr 1
  have f0 : (0 : Int) ≤ ρ 3 + -ρ 0 + (-1) := zAllA hf 0
  obtain ⟨w_0, w_1, w_2, w_3⟩ : (¬ (ρ 0 < 0)) ∧ (¬ (ρ 0 ≥ ρ 3)) ∧ (¬ (ρ 0 ≥ 100)) ∧ (ρ 1 < 0) := ⟨by omega, by omega, by omega, by omega⟩
  have m1 : γ 0 15 0 93 = ρ 3 := zAllA hm 1
  have m2 : γ 0 15 0 95 = ρ 4 := zAllA hm 2
  have l0 : sn1 [1, ρ 2] (γ 0) 0 1 (γ 1) := hS1 _ _ _ _ _ (zAllA hl 0)
  show sn85 [ρ 0, ρ 1, ρ 2, ρ 3, ρ 4] (γ 0) 0 0 (γ 1)
  refine Eq.symm ?_
  show fn85 [ρ 0, ρ 1] (γ 0) = _
  unfold fn85
  refine zLV (ρ 0) rfl (zLV (ρ 1) rfl (zLE m1 (zLE m2 (zIN w_0 (zIN w_1 (zIN w_2 (zIP w_3 ?_)))))))
  refine zLE (show fn1 [1] (γ 0) = (0, 1, γ 1) from l0.symm) (zLV (γ 1) rfl ?_)
  rfl
set_option maxRecDepth 100000 in
theorem vn85_4 {S : Nat → zSpc} (hS1 : zIm S 1 sn1) (hS80 : zIm S 80 sn80) {a : List Int} {g : rHp} : ∀ (ρ : Nat → Int) (γ : Nat → rHp), zO 5 S a g q85_4 ρ γ → zGl (fun _ _ _ => True) (sn85 a g) q85_4 ρ γ := by
  intro ρ γ h
  obtain ⟨ha, hg, hr, hf, hm, hc, hl⟩ := h
  have ha : a = [ρ 0, ρ 1, ρ 2, ρ 3, ρ 4] := ha
  subst ha
  subst hg
  have r0 : (0 : Int) ≤ ρ 0 ∧ ρ 0 ≤ 99 := zRnA hr 0
  have r1 : (8 : Int) ≤ ρ 1 ∧ ρ 1 ≤ 2147483647 := zRnA hr 1
  have f0 : (0 : Int) ≤ ρ 3 + -ρ 0 + (-1) := zAllA hf 0
  obtain ⟨w_0, w_1, w_2, w_3, w_4⟩ : (¬ (ρ 0 < 0)) ∧ (¬ (ρ 0 ≥ ρ 3)) ∧ (¬ (ρ 0 ≥ 100)) ∧ (¬ (ρ 1 < 0)) ∧ (ρ 1 > 7) := ⟨by omega, by omega, by omega, by omega, by omega⟩
  have m1 : γ 0 15 0 93 = ρ 3 := zAllA hm 1
  have m2 : γ 0 15 0 95 = ρ 4 := zAllA hm 2
  have l0 : sn1 [1, ρ 2] (γ 0) 0 1 (γ 1) := hS1 _ _ _ _ _ (zAllA hl 0)
  show sn85 [ρ 0, ρ 1, ρ 2, ρ 3, ρ 4] (γ 0) 0 0 (γ 1)
  refine Eq.symm ?_
  show fn85 [ρ 0, ρ 1] (γ 0) = _
  unfold fn85
  refine zLV (ρ 0) rfl (zLV (ρ 1) rfl (zLE m1 (zLE m2 (zIN w_0 (zIN w_1 (zIN w_2 (zIN w_3 ?_)))))))
  refine zIP w_4 (zLE (show fn1 [1] (γ 0) = (0, 1, γ 1) from l0.symm) (zLV (γ 1) rfl ?_))
  rfl
set_option maxRecDepth 100000 in
theorem vn85_5 {S : Nat → zSpc} (hS1 : zIm S 1 sn1) (hS80 : zIm S 80 sn80) {a : List Int} {g : rHp} : ∀ (ρ : Nat → Int) (γ : Nat → rHp), zO 5 S a g q85_5 ρ γ → zGl (fun _ _ _ => True) (sn85 a g) q85_5 ρ γ := by
  intro ρ γ h
  obtain ⟨ha, hg, hr, hf, hm, hc, hl⟩ := h
  have ha : a = [ρ 0, ρ 1, ρ 2, ρ 3, ρ 4] := ha
  subst ha
  subst hg
  have r0 : (0 : Int) ≤ ρ 0 ∧ ρ 0 ≤ 99 := zRnA hr 0
  have r1 : (0 : Int) ≤ ρ 1 ∧ ρ 1 ≤ 7 := zRnA hr 1
  have r6 : (1 : Int) ≤ ρ 6 ∧ ρ 6 ≤ 1 := zRnA hr 6
  have f0 : (0 : Int) ≤ ρ 3 + -ρ 0 + (-1) := zAllA hf 0
  obtain ⟨w_0, w_1, w_2, w_3, w_4, w_5⟩ : (¬ (ρ 0 < 0)) ∧ (¬ (ρ 0 ≥ ρ 3)) ∧ (¬ (ρ 0 ≥ 100)) ∧ (¬ (ρ 1 < 0)) ∧ (¬ (ρ 1 > 7)) ∧ (ρ 6 ≠ 0) := ⟨by omega, by omega, by omega, by omega, by omega, by omega⟩
  have m1 : γ 0 15 0 93 = ρ 3 := zAllA hm 1
  have m2 : γ 0 15 0 95 = ρ 4 := zAllA hm 2
  have m4 : γ 0 110 0 (ρ 1 + 8 * ρ 0) = ρ 7 := zAllA hm 4
  have l0 : zOpP (.ishr) (γ 0) (γ 1) [ρ 4, ρ 1] (ρ 5) := zAllA hl 0
  have l1 : zOpP (.iand) (γ 0) (γ 1) [ρ 5, 1] (ρ 6) := zAllA hl 1
  have l2 : sn1 [0, ρ 2] (γ 0) 0 0 (γ 1) := hS1 _ _ _ _ _ (zAllA hl 2)
  have l3 : sn80 [ρ 7] (γ 1) 0 (ρ 8) (γ 2) := hS80 _ _ _ _ _ (zAllA hl 3)
  show sn85 [ρ 0, ρ 1, ρ 2, ρ 3, ρ 4] (γ 0) 0 (ρ 8) (γ 2)
  refine Eq.symm ?_
  show fn85 [ρ 0, ρ 1] (γ 0) = _
  unfold fn85
  refine zLV (ρ 0) rfl (zLV (ρ 1) rfl (zLE m1 (zLE m2 (zIN w_0 (zIN w_1 (zIN w_2 (zIN w_3 ?_)))))))
  refine zIN w_4 (zLE (zF2_ok l0) (zLE (zF2_ok l1) (zIP w_5 (zLE (show fn1 [0] (γ 0) = (0, 0, γ 1) from l2.symm) (zLV (γ 1) rfl (zLE m4 (zLE (show fn80 [ρ 7] (γ 1) = (0, ρ 8, γ 2) from l3.symm) ?_)))))))
  refine zLV (γ 2) rfl (zLV (ρ 8) rfl ?_)
  rfl
set_option maxRecDepth 100000 in
theorem vn85_6 {S : Nat → zSpc} (hS1 : zIm S 1 sn1) (hS80 : zIm S 80 sn80) {a : List Int} {g : rHp} : ∀ (ρ : Nat → Int) (γ : Nat → rHp), zO 5 S a g q85_6 ρ γ → zGl (fun _ _ _ => True) (sn85 a g) q85_6 ρ γ := by
  intro ρ γ h
  obtain ⟨ha, hg, hr, hf, hm, hc, hl⟩ := h
  have ha : a = [ρ 0, ρ 1, ρ 2, ρ 3, ρ 4] := ha
  subst ha
  subst hg
  have r0 : (0 : Int) ≤ ρ 0 ∧ ρ 0 ≤ 99 := zRnA hr 0
  have r1 : (0 : Int) ≤ ρ 1 ∧ ρ 1 ≤ 7 := zRnA hr 1
  have r6 : (0 : Int) ≤ ρ 6 ∧ ρ 6 ≤ 0 := zRnA hr 6
  have f0 : (0 : Int) ≤ ρ 3 + -ρ 0 + (-1) := zAllA hf 0
  obtain ⟨w_0, w_1, w_2, w_3, w_4, w_5⟩ : (¬ (ρ 0 < 0)) ∧ (¬ (ρ 0 ≥ ρ 3)) ∧ (¬ (ρ 0 ≥ 100)) ∧ (¬ (ρ 1 < 0)) ∧ (¬ (ρ 1 > 7)) ∧ (¬ (ρ 6 ≠ 0)) := ⟨by omega, by omega, by omega, by omega, by omega, by omega⟩
  have m1 : γ 0 15 0 93 = ρ 3 := zAllA hm 1
  have m2 : γ 0 15 0 95 = ρ 4 := zAllA hm 2
  have l0 : zOpP (.ishr) (γ 0) (γ 1) [ρ 4, ρ 1] (ρ 5) := zAllA hl 0
  have l1 : zOpP (.iand) (γ 0) (γ 1) [ρ 5, 1] (ρ 6) := zAllA hl 1
  have l2 : sn1 [1, ρ 2] (γ 0) 0 1 (γ 1) := hS1 _ _ _ _ _ (zAllA hl 2)
  show sn85 [ρ 0, ρ 1, ρ 2, ρ 3, ρ 4] (γ 0) 0 0 (γ 1)
  refine Eq.symm ?_
  show fn85 [ρ 0, ρ 1] (γ 0) = _
  unfold fn85
  refine zLV (ρ 0) rfl (zLV (ρ 1) rfl (zLE m1 (zLE m2 (zIN w_0 (zIN w_1 (zIN w_2 (zIN w_3 ?_)))))))
  refine zIN w_4 (zLE (zF2_ok l0) (zLE (zF2_ok l1) (zIN w_5 (zLE (show fn1 [1] (γ 0) = (0, 1, γ 1) from l2.symm) (zLV (γ 1) rfl ?_)))))
  rfl
set_option maxRecDepth 100000 in
theorem yn85 {S : Nat → zSpc} (hS1 : zIm S 1 sn1) (hS80 : zIm S 80 sn80) : ∀ x g o v gz, zSem uW uT w85_.2.2.2.1 w85_.2.2.1.1.length S q85 (fun i => q85a.getD i []) (zNA a85_) x g o v gz → sn85 x g o v gz := by
  intro a g o v gz h
  exact zSem_all (l0 := q85) (las := q85a) (S := S) (J := (fun _ _ _ => True)) (P := sn85 a g) (fun _ => (show zAll _ [q85_0, q85_1, q85_2, q85_3, q85_4, q85_5, q85_6] from (zAll_c (vn85_0 hS1 hS80) (zAll_c (vn85_1 hS1 hS80) (zAll_c (vn85_2 hS1 hS80) (zAll_c (vn85_3 hS1 hS80) (zAll_c (vn85_4 hS1 hS80) (zAll_c (vn85_5 hS1 hS80) (zAll_c (vn85_6 hS1 hS80) zAll_n))))))))) (fun _ => (show zAllI _ 0 [] from trivial)) h
set_option maxRecDepth 100000 in
theorem vn86_0 {S : Nat → zSpc} (hS1 : zIm S 1 sn1) {a : List Int} {g : rHp} : ∀ (ρ : Nat → Int) (γ : Nat → rHp), zO 3 S a g q86_0 ρ γ → zGl (fun i vs g1 => jn86 a g i vs g1) (sn86 a g) q86_0 ρ γ := by
  intro ρ γ h
  obtain ⟨ha, hg, hr, hf, hm, hc, hl⟩ := h
  have ha : a = [ρ 0, ρ 1, ρ 2] := ha
  subst ha
  subst hg
  have r0 : ((-2147483648) : Int) ≤ ρ 0 ∧ ρ 0 ≤ (-1) := zRnA hr 0
  have w_0 : ρ 0 < 0 := by omega
  have m1 : γ 0 15 0 4 = ρ 2 := zAllA hm 1
  have l0 : sn1 [1, ρ 1] (γ 0) 0 1 (γ 1) := hS1 _ _ _ _ _ (zAllA hl 0)
  show sn86 [ρ 0, ρ 1, ρ 2] (γ 0) 0 0 (γ 1)
  have hD : dn86 [ρ 0] (γ 0) = .inr (0, 0, γ 1) := by
    unfold dn86
    refine zLV (ρ 0) rfl (zLE m1 (zIP w_0 (zLE (show fn1 [1] (γ 0) = (0, 1, γ 1) from l0.symm) (zLV (γ 1) rfl ?_))))
    rfl
  exact zGoo_end hD
set_option maxRecDepth 100000 in
theorem vn86_1 {S : Nat → zSpc} (hS1 : zIm S 1 sn1) {a : List Int} {g : rHp} : ∀ (ρ : Nat → Int) (γ : Nat → rHp), zO 3 S a g q86_1 ρ γ → zGl (fun i vs g1 => jn86 a g i vs g1) (sn86 a g) q86_1 ρ γ := by
  intro ρ γ h
  obtain ⟨ha, hg, hr, hf, hm, hc, hl⟩ := h
  have ha : a = [ρ 0, ρ 1, ρ 2] := ha
  subst ha
  subst hg
  have r0 : (0 : Int) ≤ ρ 0 ∧ ρ 0 ≤ 2147483647 := zRnA hr 0
  have f0 : (0 : Int) ≤ ρ 2 + -ρ 0 + (-1) := zAllA hf 0
  obtain ⟨w_0, w_1⟩ : (¬ (ρ 0 < 0)) ∧ (ρ 0 < ρ 2) := ⟨by omega, by omega⟩
  have m1 : γ 0 15 0 4 = ρ 2 := zAllA hm 1
  have l0 : sn1 [0, ρ 1] (γ 0) 0 0 (γ 1) := hS1 _ _ _ _ _ (zAllA hl 0)
  show jn86 [ρ 0, ρ 1, ρ 2] (γ 0) 0 [ρ 0, ρ 1, ρ 2, ρ 0, 0, 0] (γ 1)
  have hD : dn86 [ρ 0] (γ 0) = .inl (0, [ρ 0, ρ 0, 0], γ 1) := by
    unfold dn86
    refine zLV (ρ 0) rfl (zLE m1 (zIN w_0 (zIP w_1 (zLE (show fn1 [0] (γ 0) = (0, 0, γ 1) from l0.symm) (zLV (γ 1) rfl ?_)))))
    rfl
  exact zGoo_to hD
set_option maxRecDepth 100000 in
theorem vn86_2 {S : Nat → zSpc} (hS1 : zIm S 1 sn1) {a : List Int} {g : rHp} : ∀ (ρ : Nat → Int) (γ : Nat → rHp), zO 3 S a g q86_2 ρ γ → zGl (fun i vs g1 => jn86 a g i vs g1) (sn86 a g) q86_2 ρ γ := by
  intro ρ γ h
  obtain ⟨ha, hg, hr, hf, hm, hc, hl⟩ := h
  have ha : a = [ρ 0, ρ 1, ρ 2] := ha
  subst ha
  subst hg
  have r0 : (0 : Int) ≤ ρ 0 ∧ ρ 0 ≤ 2147483647 := zRnA hr 0
  have f0 : (0 : Int) ≤ -ρ 2 + ρ 0 := zAllA hf 0
  obtain ⟨w_0, w_1⟩ : (¬ (ρ 0 < 0)) ∧ (¬ (ρ 0 < ρ 2)) := ⟨by omega, by omega⟩
  have m1 : γ 0 15 0 4 = ρ 2 := zAllA hm 1
  have l0 : sn1 [1, ρ 1] (γ 0) 0 1 (γ 1) := hS1 _ _ _ _ _ (zAllA hl 0)
  show sn86 [ρ 0, ρ 1, ρ 2] (γ 0) 0 0 (γ 1)
  have hD : dn86 [ρ 0] (γ 0) = .inr (0, 0, γ 1) := by
    unfold dn86
    refine zLV (ρ 0) rfl (zLE m1 (zIN w_0 (zIN w_1 (zLE (show fn1 [1] (γ 0) = (0, 1, γ 1) from l0.symm) (zLV (γ 1) rfl ?_)))))
    rfl
  exact zGoo_end hD
set_option maxRecDepth 100000 in
theorem vn86a0_0 {S : Nat → zSpc} (hS1 : zIm S 1 sn1) {a : List Int} {g : rHp} : ∀ (ρ : Nat → Int) (γ : Nat → rHp), jn86 a g 0 (zAg (zNA a86_ 0) ρ) (γ 1) → zO 3 S a g q86a0_0 ρ γ → zGl (fun i vs g1 => jn86 a g i vs g1) (sn86 a g) q86a0_0 ρ γ := by
  intro ρ γ hJ h
  obtain ⟨ha, hg, hr, hf, hm, hc, hl⟩ := h
  have ha : a = [ρ 0, ρ 1, ρ 2] := ha
  subst ha
  subst hg
  have hJ : jn86 [ρ 0, ρ 1, ρ 2] (γ 0) 0 [ρ 0, ρ 1, ρ 2, ρ 3, ρ 4, ρ 5] (γ 1) := hJ
  have f0 : (0 : Int) ≤ ρ 3 + -ρ 0 + (-8) := zAllA hf 0
  have w_0 : ρ 3 ≥ ρ 0 + 8 := by omega
  have m1 : γ 0 15 0 4 = ρ 2 := zAllA hm 1
  show sn86 [ρ 0, ρ 1, ρ 2] (γ 0) 0 (ρ 4) (γ 1)
  have hD : en86 (γ 0) (0, [ρ 0, ρ 3, ρ 4], γ 1) = .inr (0, ρ 4, γ 1) := by
    unfold en86
    refine zIP (show (0 : Nat) = 0 by decide) (zLV (γ 1) rfl (zLV (ρ 0) rfl (zLV (ρ 3) rfl (zLV (ρ 4) rfl (zLE m1 (zIP w_0 ?_))))))
    rfl
  exact zGoo_aend hJ hD
set_option maxRecDepth 100000 in
theorem vn86a0_1 {S : Nat → zSpc} (hS1 : zIm S 1 sn1) {a : List Int} {g : rHp} : ∀ (ρ : Nat → Int) (γ : Nat → rHp), jn86 a g 0 (zAg (zNA a86_ 0) ρ) (γ 1) → zO 3 S a g q86a0_1 ρ γ → zGl (fun i vs g1 => jn86 a g i vs g1) (sn86 a g) q86a0_1 ρ γ := by
  intro ρ γ hJ h
  obtain ⟨ha, hg, hr, hf, hm, hc, hl⟩ := h
  have ha : a = [ρ 0, ρ 1, ρ 2] := ha
  subst ha
  subst hg
  have hJ : jn86 [ρ 0, ρ 1, ρ 2] (γ 0) 0 [ρ 0, ρ 1, ρ 2, ρ 3, ρ 4, ρ 5] (γ 1) := hJ
  have f0 : (0 : Int) ≤ ρ 3 + -ρ 2 := zAllA hf 0
  have f1 : (0 : Int) ≤ -ρ 3 + ρ 0 + 7 := zAllA hf 1
  obtain ⟨w_0, w_1⟩ : (¬ (ρ 3 ≥ ρ 0 + 8)) ∧ (ρ 3 ≥ ρ 2) := ⟨by omega, by omega⟩
  have m1 : γ 0 15 0 4 = ρ 2 := zAllA hm 1
  have l0 : zOpP (.lshl) (γ 0) (γ 1) [ρ 4, 8] (ρ 6) := zAllA hl 0
  have l1 : zOpP (.lor) (γ 0) (γ 1) [ρ 6, 0] (ρ 7) := zAllA hl 1
  show jn86 [ρ 0, ρ 1, ρ 2] (γ 0) 0 [ρ 0, ρ 1, ρ 2, ρ 3 + 1, ρ 7, ρ 5] (γ 1)
  have hD : en86 (γ 0) (0, [ρ 0, ρ 3, ρ 4], γ 1) = .inl (0, [ρ 0, ρ 3 + 1, ρ 7], γ 1) := by
    unfold en86
    refine zIP (show (0 : Nat) = 0 by decide) (zLV (γ 1) rfl (zLV (ρ 0) rfl (zLV (ρ 3) rfl (zLV (ρ 4) rfl (zLE m1 (zIN w_0 (zLE (zF2_ok l0) ?_)))))))
    refine zIP w_1 (zLE (zF2_ok l1) ?_)
    rfl
  exact zGoo_ato hJ hD
set_option maxRecDepth 100000 in
theorem vn86a0_2 {S : Nat → zSpc} (hS1 : zIm S 1 sn1) {a : List Int} {g : rHp} : ∀ (ρ : Nat → Int) (γ : Nat → rHp), jn86 a g 0 (zAg (zNA a86_ 0) ρ) (γ 1) → zO 3 S a g q86a0_2 ρ γ → zGl (fun i vs g1 => jn86 a g i vs g1) (sn86 a g) q86a0_2 ρ γ := by
  intro ρ γ hJ h
  obtain ⟨ha, hg, hr, hf, hm, hc, hl⟩ := h
  have ha : a = [ρ 0, ρ 1, ρ 2] := ha
  subst ha
  subst hg
  have hJ : jn86 [ρ 0, ρ 1, ρ 2] (γ 0) 0 [ρ 0, ρ 1, ρ 2, ρ 3, ρ 4, ρ 5] (γ 1) := hJ
  have f0 : (0 : Int) ≤ -ρ 3 + ρ 2 + (-1) := zAllA hf 0
  have f1 : (0 : Int) ≤ -ρ 3 + ρ 0 + 7 := zAllA hf 1
  obtain ⟨w_0, w_1⟩ : (¬ (ρ 3 ≥ ρ 0 + 8)) ∧ (¬ (ρ 3 ≥ ρ 2)) := ⟨by omega, by omega⟩
  have m1 : γ 0 15 0 4 = ρ 2 := zAllA hm 1
  have m3 : γ 0 60 0 (ρ 3) = ρ 7 := zAllA hm 3
  have l0 : zOpP (.lshl) (γ 0) (γ 1) [ρ 4, 8] (ρ 6) := zAllA hl 0
  have l1 : zOpP (.land) (γ 0) (γ 1) [ρ 7, 255] (ρ 8) := zAllA hl 1
  have l2 : zOpP (.lor) (γ 0) (γ 1) [ρ 6, ρ 8] (ρ 9) := zAllA hl 2
  show jn86 [ρ 0, ρ 1, ρ 2] (γ 0) 0 [ρ 0, ρ 1, ρ 2, ρ 3 + 1, ρ 9, ρ 5] (γ 1)
  have hD : en86 (γ 0) (0, [ρ 0, ρ 3, ρ 4], γ 1) = .inl (0, [ρ 0, ρ 3 + 1, ρ 9], γ 1) := by
    unfold en86
    refine zIP (show (0 : Nat) = 0 by decide) (zLV (γ 1) rfl (zLV (ρ 0) rfl (zLV (ρ 3) rfl (zLV (ρ 4) rfl (zLE m1 (zIN w_0 (zLE (zF2_ok l0) ?_)))))))
    refine zIN w_1 (zLE m3 (zLE (zF2_ok l1) (zLE (zF2_ok l2) ?_)))
    rfl
  exact zGoo_ato hJ hD
set_option maxRecDepth 100000 in
theorem yn86 {S : Nat → zSpc} (hS1 : zIm S 1 sn1) : ∀ x g o v gz, zSem uW uT w86_.2.2.2.1 w86_.2.2.1.1.length S q86 (fun i => q86a.getD i []) (zNA a86_) x g o v gz → sn86 x g o v gz := by
  intro a g o v gz h
  exact zSem_all (l0 := q86) (las := q86a) (S := S) (J := (fun i vs g1 => jn86 a g i vs g1)) (P := sn86 a g) (fun _ => (show zAll _ [q86_0, q86_1, q86_2] from (zAll_c (vn86_0 hS1) (zAll_c (vn86_1 hS1) (zAll_c (vn86_2 hS1) zAll_n))))) (fun _ => (show zAllI _ 0 [q86a0] from ⟨(show zAll _ [q86a0_0, q86a0_1, q86a0_2] from (zAll_c (vn86a0_0 hS1) (zAll_c (vn86a0_1 hS1) (zAll_c (vn86a0_2 hS1) zAll_n)))), trivial⟩)) h
set_option maxRecDepth 100000 in
theorem vn87_0 {S : Nat → zSpc}  {a : List Int} {g : rHp} : ∀ (ρ : Nat → Int) (γ : Nat → rHp), zO 2 S a g q87_0 ρ γ → zGl (fun _ _ _ => True) (sn87 a g) q87_0 ρ γ := by
  intro ρ γ h
  obtain ⟨ha, hg, hr, hf, hm, hc, hl⟩ := h
  have ha : a = [ρ 0, ρ 1] := ha
  subst ha
  subst hg
  have m0 : γ 0 15 0 4 = ρ 1 := zAllA hm 0
  have c1 : γ 1 = rUp (γ 0) 60 0 (ρ 1) (ρ 2) := And.right (zChA hc 1)
  have c2 : γ 2 = rUp (γ 1) 15 0 4 (ρ 1 + 1) := And.right (zChA hc 0)
  have l0 : zOpP (.i2b) (γ 0) (γ 1) [ρ 0] (ρ 2) := zAllA hl 0
  show sn87 [ρ 0, ρ 1] (γ 0) 0 0 (γ 2)
  refine Eq.symm ?_
  show fn87 [ρ 0] (γ 0) = _
  unfold fn87
  refine zLV (ρ 0) rfl (zLE m0 (zLE (zF1_ok l0) (zLE c1.symm (zLE c2.symm ?_))))
  rfl
set_option maxRecDepth 100000 in
theorem yn87 {S : Nat → zSpc}  : ∀ x g o v gz, zSem uW uT w87_.2.2.2.1 w87_.2.2.1.1.length S q87 (fun i => q87a.getD i []) (zNA a87_) x g o v gz → sn87 x g o v gz := by
  intro a g o v gz h
  exact zSem_all (l0 := q87) (las := q87a) (S := S) (J := (fun _ _ _ => True)) (P := sn87 a g) (fun _ => (show zAll _ [q87_0] from (zAll_c (vn87_0 ) zAll_n))) (fun _ => (show zAllI _ 0 [] from trivial)) h
