/-! ===== what find and ask leave, by rows ===== -/
noncomputable def lEC : List Nat := [9, 10, 16, 17, 19, 20, 21, 26, 40, 43, 44, 46]
noncomputable def lEM : List Nat := [59, 61, 62, 63, 64, 65, 66, 67, 68, 69, 70, 71, 72, 73, 76, 77, 78, 79, 81]
/-- the class_q cells that count are the same -/
noncomputable def eqC (g gz : rHp) : Prop := (gz 2 0 3 = g 2 0 3 ∧ gz 3 0 1 = g 3 0 1 ∧ gz 1 0 7 = g 1 0 7 ∧ gz 1 0 9 = g 1 0 9 ∧ gz 1 0 10 = g 1 0 10 ∧ gz 0 0 7 = g 0 0 7) ∧ ∀ G, G ∈ lEC → gz G = g G
/-- the reference's cells that count are the same -/
noncomputable def eqM (g gz : rHp) : Prop := (gz 15 0 3 = g 15 0 3 ∧ gz 15 0 8 = g 15 0 8 ∧ gz 15 0 9 = g 15 0 9 ∧ gz 15 0 13 = g 15 0 13 ∧ gz 15 0 17 = g 15 0 17 ∧ gz 15 0 32 = g 15 0 32 ∧ gz 15 0 59 = g 15 0 59) ∧ (∀ G, G ∈ lEM → gz G = g G) ∧ ∀ x, x < 1952 → gz 80 0 x = g 80 0 x
theorem eqC_rf {g : rHp} : eqC g g := ⟨⟨rfl, rfl, rfl, rfl, rfl, rfl⟩, fun _ _ => rfl⟩
theorem eqM_rf {g : rHp} : eqM g g := ⟨⟨rfl, rfl, rfl, rfl, rfl, rfl, rfl⟩, fun _ _ => rfl, fun _ _ => rfl⟩
theorem eqC_tr {a b c : rHp} (h : eqC a b) (k : eqC b c) : eqC a c := by
  obtain ⟨⟨a1, a2, a3, a4, a5, a6⟩, a7⟩ := h
  obtain ⟨⟨b1, b2, b3, b4, b5, b6⟩, b7⟩ := k
  exact ⟨⟨b1.trans a1, b2.trans a2, b3.trans a3, b4.trans a4, b5.trans a5, b6.trans a6⟩, fun G z => (b7 G z).trans (a7 G z)⟩
theorem eqM_tr {a b c : rHp} (h : eqM a b) (k : eqM b c) : eqM a c := by
  obtain ⟨⟨a1, a2, a3, a4, a5, a6, a7⟩, a8, a9⟩ := h
  obtain ⟨⟨b1, b2, b3, b4, b5, b6, b7⟩, b8, b9⟩ := k
  exact ⟨⟨b1.trans a1, b2.trans a2, b3.trans a3, b4.trans a4, b5.trans a5, b6.trans a6, b7.trans a7⟩, fun G z => (b8 G z).trans (a8 G z), fun x z => (b9 x z).trans (a9 x z)⟩
theorem eqC_3 {a b : rHp} (h : eqC a b) : eqC (rUp a 2 0 3 0) (rUp b 2 0 3 0) := by
  have n : ∀ (x : rHp) (G : Nat), G ≠ 2 → rUp x 2 0 3 0 G = x G := fun x G z => rUp_grp z
  obtain ⟨⟨a1, a2, a3, a4, a5, a6⟩, a7⟩ := h
  refine ⟨⟨by rw [rUp_at, rUp_at], ?_, ?_, ?_, ?_, ?_⟩, fun G z => ?_⟩
  · rw [n b 3 (by decide), n a 3 (by decide)]; exact a2
  · rw [n b 1 (by decide), n a 1 (by decide)]; exact a3
  · rw [n b 1 (by decide), n a 1 (by decide)]; exact a4
  · rw [n b 1 (by decide), n a 1 (by decide)]; exact a5
  · rw [n b 0 (by decide), n a 0 (by decide)]; exact a6
  · rw [n b G (by rintro rfl; exact absurd z (by decide)), n a G (by rintro rfl; exact absurd z (by decide))]; exact a7 G z
theorem eqC_up {g gz : rHp} {G : Nat} {k j v : Int} (e : gz = rUp g G k j v) (h : G ∉ [0, 1, 2, 3, 9, 10, 16, 17, 19, 20, 21, 26, 40, 43, 44, 46]) : eqC g gz := by
  subst e
  have n : ∀ x : Nat, x ∈ [0, 1, 2, 3, 9, 10, 16, 17, 19, 20, 21, 26, 40, 43, 44, 46] → rUp g G k j v x = g x := fun x z => rUp_grp (by rintro rfl; exact h z)
  refine ⟨⟨by rw [n 2 (by decide)], by rw [n 3 (by decide)], by rw [n 1 (by decide)], by rw [n 1 (by decide)], by rw [n 1 (by decide)], by rw [n 0 (by decide)]⟩, fun x z => n x ?_⟩
  unfold lEC at z
  simp only [List.mem_cons, List.not_mem_nil, or_false] at z ⊢
  omega
theorem eqC_0 {g gz : rHp} {k j v : Int} (e : gz = rUp g 0 k j v) (h : j ≠ 7) : eqC g gz := by
  subst e
  exact ⟨⟨by rw [rUp_grp (by decide)], by rw [rUp_grp (by decide)], by rw [rUp_grp (by decide)], by rw [rUp_grp (by decide)], by rw [rUp_grp (by decide)], rUp_ne (fun w => h w.2.2.symm)⟩, fun x z => rUp_grp (by rintro rfl; exact absurd z (by decide))⟩
theorem eqM_up {g gz : rHp} {G : Nat} {k j v : Int} (e : gz = rUp g G k j v) (h : G ∉ [15, 59, 61, 62, 63, 64, 65, 66, 67, 68, 69, 70, 71, 72, 73, 76, 77, 78, 79, 80, 81]) : eqM g gz := by
  subst e
  have n : ∀ x : Nat, x ∈ [15, 59, 61, 62, 63, 64, 65, 66, 67, 68, 69, 70, 71, 72, 73, 76, 77, 78, 79, 80, 81] → rUp g G k j v x = g x := fun x z => rUp_grp (by rintro rfl; exact h z)
  refine ⟨⟨by rw [n 15 (by decide)], by rw [n 15 (by decide)], by rw [n 15 (by decide)], by rw [n 15 (by decide)], by rw [n 15 (by decide)], by rw [n 15 (by decide)], by rw [n 15 (by decide)]⟩, fun x z => n x ?_, fun x _ => by rw [n 80 (by decide)]⟩
  unfold lEM at z
  simp only [List.mem_cons, List.not_mem_nil, or_false] at z ⊢
  omega
theorem eqM_fl {g gz : rHp} {j v : Int} (e : gz = rUp g 15 0 j v) (h : j ∉ [(3 : Int), 8, 9, 13, 17, 32, 59]) : eqM g gz := by
  subst e
  have n : ∀ x : Int, x ∈ [(3 : Int), 8, 9, 13, 17, 32, 59] → rUp g 15 0 j v 15 0 x = g 15 0 x := fun x z => rUp_ne (fun y => h (by rw [← y.2.2]; exact z))
  exact ⟨⟨n 3 (by decide), n 8 (by decide), n 9 (by decide), n 13 (by decide), n 17 (by decide), n 32 (by decide), n 59 (by decide)⟩, fun x z => rUp_grp (by rintro rfl; exact absurd z (by decide)), fun x _ => by rw [rUp_grp (by decide)]⟩
/-- loosen leaves the RULES as they are -/
theorem eqM_44 {g gz : rHp} (e : gz = (fn44 [] g).2.2) (h : g 15 0 44 = 61) : eqM g gz := by
  obtain ⟨m_q, h1, h2, _, h4, _⟩ := fn44_lo g
  have e2 : gz = m_q := by rw [e, h1]
  rw [h] at h4
  subst e2
  exact ⟨⟨h2.2 3 (by decide), h2.2 8 (by decide), h2.2 9 (by decide), h2.2 13 (by decide), h2.2 17 (by decide), h2.2 32 (by decide), h2.2 59 (by decide)⟩, fun G z => h2.1 G (by unfold lEM at z; simp only [List.mem_cons, List.not_mem_nil, or_false] at z ⊢; omega) (by unfold lEM at z; simp only [List.mem_cons, List.not_mem_nil, or_false] at z; omega), fun x z => h4 x (by omega)⟩
noncomputable def maO (ms G : Nat) : Bool := (List.range 128).all (fun j => !Nat.testBit ms (128 * G + j))
noncomputable def maC (ms : Nat) : Bool := (!Nat.testBit ms (128 * 2 + 3)) && (!Nat.testBit ms (128 * 3 + 1)) && (!Nat.testBit ms (128 * 1 + 7)) && (!Nat.testBit ms (128 * 1 + 9)) && (!Nat.testBit ms (128 * 1 + 10)) && (!Nat.testBit ms (128 * 0 + 7)) && [16, 17, 19, 20, 21, 26, 40, 43, 44, 46].all (fun G => !Nat.testBit ms (2048 + G)) && maO ms 9 && maO ms 10
noncomputable def maM (ms : Nat) : Bool := (!Nat.testBit ms (128 * 15 + 3)) && (!Nat.testBit ms (128 * 15 + 8)) && (!Nat.testBit ms (128 * 15 + 9)) && (!Nat.testBit ms (128 * 15 + 13)) && (!Nat.testBit ms (128 * 15 + 17)) && (!Nat.testBit ms (128 * 15 + 32)) && (!Nat.testBit ms (128 * 15 + 59)) && [59, 61, 62, 63, 64, 65, 66, 67, 68, 69, 70, 71, 72, 73, 76, 77, 78, 79, 80, 81].all (fun G => !Nat.testBit ms (2048 + G))
theorem zKg {ms G : Nat} {g gz : rHp} (hG : G < 16) (h : maO ms G = true) (hk : ∀ (G : Nat) (k j : Int), ¬ rMdP ms G j → gz G k j = g G k j) : gz G = g G := by
  funext k j
  refine hk G k j ?_
  rintro (⟨_, n, h2, h3, h4⟩ | ⟨h1, _⟩)
  · have := List.all_eq_true.mp h n (List.mem_range.mpr h3)
    rw [h4] at this
    exact absurd this (by decide)
  · omega
theorem eqC_k {ms : Nat} (h : maC ms = true) {g gz : rHp} (hk : ∀ (G : Nat) (k j : Int), ¬ rMdP ms G j → gz G k j = g G k j) : eqC g gz := by
  unfold maC at h
  simp only [Bool.and_eq_true, Bool.not_eq_true'] at h
  obtain ⟨⟨⟨⟨⟨⟨⟨⟨h1, h2⟩, h3⟩, h4⟩, h5⟩, h6⟩, h7⟩, h8⟩, h9⟩ := h
  refine ⟨⟨zKo (by decide) h1 hk 0, zKo (by decide) h2 hk 0, zKo (by decide) h3 hk 0, zKo (by decide) h4 hk 0, zKo (by decide) h5 hk 0, zKo (by decide) h6 hk 0⟩, fun G z => ?_⟩
  unfold lEC at z
  by_cases e9 : G = 9
  · rw [e9]; exact zKg (by decide) h8 hk
  · by_cases e10 : G = 10
    · rw [e10]; exact zKg (by decide) h9 hk
    · have z2 : G ∈ [16, 17, 19, 20, 21, 26, 40, 43, 44, 46] := by
        simp only [List.mem_cons, List.not_mem_nil, or_false] at z ⊢
        omega
      refine zKa ?_ ?_ hk
      · simp only [List.mem_cons, List.not_mem_nil, or_false] at z2; omega
      · have := List.all_eq_true.mp h7 G z2
        simpa using this
theorem eqM_k {ms : Nat} (h : maM ms = true) {g gz : rHp} (hk : ∀ (G : Nat) (k j : Int), ¬ rMdP ms G j → gz G k j = g G k j) : eqM g gz := by
  unfold maM at h
  simp only [Bool.and_eq_true, Bool.not_eq_true'] at h
  obtain ⟨⟨⟨⟨⟨⟨⟨h1, h2⟩, h3⟩, h4⟩, h5⟩, h6⟩, h7⟩, h8⟩ := h
  have arr : ∀ G, G ∈ [59, 61, 62, 63, 64, 65, 66, 67, 68, 69, 70, 71, 72, 73, 76, 77, 78, 79, 80, 81] → gz G = g G := fun G z => by
    refine zKa ?_ ?_ hk
    · simp only [List.mem_cons, List.not_mem_nil, or_false] at z; omega
    · have := List.all_eq_true.mp h8 G z
      simpa using this
  refine ⟨⟨zKo (by decide) h1 hk 0, zKo (by decide) h2 hk 0, zKo (by decide) h3 hk 0, zKo (by decide) h4 hk 0, zKo (by decide) h5 hk 0, zKo (by decide) h6 hk 0, zKo (by decide) h7 hk 0⟩, fun G z => arr G ?_, fun x _ => by rw [arr 80 (by decide)]⟩
  unfold lEM at z
  simp only [List.mem_cons, List.not_mem_nil, or_false] at z ⊢
  omega
noncomputable def hF1 (c : rHp) : rHp := if c 0 0 7 ≠ 0 then rUp (fn146 [] (qUc 1 c)).2.2 2 0 3 0 else rUp c 2 0 3 0
noncomputable def hA1 (c : rHp) : rHp := if c 0 0 7 ≠ 0 then rUp (fn159 [] (qUc 2 c)).2.2 2 0 3 0 else rUp c 2 0 3 0
noncomputable def hG1 (m : rHp) : rHp := if m 15 0 59 ≠ 0 then (fn27 [] (fn32 [61] (rUp (rUp (fn5 [] m).2.2 15 0 0 0) 15 0 14 (m 15 0 13))).2.2).2.2 else rUp (fn5 [] m).2.2 15 0 0 1
noncomputable def hB1 (m : rHp) : rHp := hpB m
noncomputable def sr221 : zSpc := fun _ g _ _ gz => eqC (hF1 g) gz
noncomputable def sr266 : zSpc := fun _ g _ _ gz => eqC (hA1 g) gz
noncomputable def sr274 : zSpc := fun _ g _ _ gz => eqC (hF1 g) gz
noncomputable def sr275 : zSpc := fun _ g _ _ gz => eqC (hA1 g) gz
noncomputable def sr90 : zSpc := fun _ g _ _ gz => eqM (hG1 g) gz
noncomputable def sr91 : zSpc := fun _ g _ _ gz => eqM (hB1 g) gz
theorem f112 {x : Int} {g gz : rHp} (h : sn112 [x] g 0 0 gz) : gz = rUp g 2 0 3 0 := congrArg (fun r : zR => r.2.2) h
theorem f32_44 {g gz : rHp} (e : gz = (fn32 [61] g).2.2) : gz 15 0 44 = 61 := by
  rw [e]
  show rUp (rUp (rUp (rUp (rUp g 15 0 44 61) 73 0 61 0) 74 0 61 0) 15 0 45 0) 15 0 58 0 15 0 44 = 61
  rw [rUp_ne (by decide), rUp_ne (by decide), rUp_grp (by decide), rUp_grp (by decide), rUp_at]
noncomputable def jr221 : List Int → rHp → Nat → List Int → rHp → Prop := fun _ g _ _ g1 => eqC (hF1 g) g1
noncomputable def jr90 : List Int → rHp → Nat → List Int → rHp → Prop := fun _ g _ _ g1 => eqM (hG1 g) g1
noncomputable def jr91 : List Int → rHp → Nat → List Int → rHp → Prop := fun _ g _ _ g1 => eqM (hB1 g) g1
theorem wn221_0 {S : Nat → zSpc} (hS111 : ∀ x g o v gz, S 111 x g o v gz → sn111 x g o v gz) (hS112 : ∀ x g o v gz, S 112 x g o v gz → sn112 x g o v gz) (hS131 : ∀ x g o v gz, S 131 x g o v gz → sn131 x g o v gz) (hS146 : ∀ x g o v gz, S 146 x g o v gz → sn146 x g o v gz) (hS147 : ∀ x g o v gz, S 147 x g o v gz → sn147 x g o v gz) (hS149 : ∀ x g o v gz, S 149 x g o v gz → sn149 x g o v gz) {a : List Int} {g : rHp} : ∀ (ρ : Nat → Int) (γ : Nat → rHp), zO 23 S a g q221_0 ρ γ → zGl (fun i vs g1 => jr221 a g i vs g1) (sr221 a g) q221_0 ρ γ := by
  intro ρ γ h
  obtain ⟨ha, hg, hr, hf, hm, hc, hl⟩ := h
  have ha : a = [ρ 0, ρ 1, ρ 2, ρ 3, ρ 4, ρ 5, ρ 6, ρ 7, ρ 8, ρ 9, ρ 10, ρ 11, ρ 12, ρ 13, ρ 14, ρ 15, ρ 16, ρ 17, ρ 18, ρ 19, ρ 20, ρ 21, ρ 22] := ha
  subst ha
  subst hg
  obtain ⟨r0, r1, r2, r3, r4, r5, r6, r7, r8, r9, r10, r11, r12, r13, r14, r15, r16, r17, r18, r19, r20, r21, r22, r23, r24, r25, r26, r27, r28, r29, r30, r31, r32, r33, r34, r35, r36, r37, r38, r39, r40, r41, -⟩ := hr
  have r0 : (0 : Int) ≤ ρ 0 ∧ ρ 0 ≤ 60 := r0
  have r1 : (0 : Int) ≤ ρ 1 ∧ ρ 1 ≤ 60 := r1
  have r2 : (0 : Int) ≤ ρ 2 ∧ ρ 2 ≤ 8 := r2
  have r3 : (0 : Int) ≤ ρ 3 ∧ ρ 3 ≤ 2001 := r3
  have r4 : (0 : Int) ≤ ρ 4 ∧ ρ 4 ≤ 2000 := r4
  have r5 : (0 : Int) ≤ ρ 5 ∧ ρ 5 ≤ 2 := r5
  have r6 : (0 : Int) ≤ ρ 6 ∧ ρ 6 ≤ 20 := r6
  have r7 : ((-2147483648) : Int) ≤ ρ 7 ∧ ρ 7 ≤ 2147483647 := r7
  have r8 : ((-2147483648) : Int) ≤ ρ 8 ∧ ρ 8 ≤ 2147483647 := r8
  have r9 : ((-2147483648) : Int) ≤ ρ 9 ∧ ρ 9 ≤ 2147483647 := r9
  have r10 : (0 : Int) ≤ ρ 10 ∧ ρ 10 ≤ 8 := r10
  have r11 : (0 : Int) ≤ ρ 11 ∧ ρ 11 ≤ 32 := r11
  have r12 : (0 : Int) ≤ ρ 12 ∧ ρ 12 ≤ 5120 := r12
  have r13 : (0 : Int) ≤ ρ 13 ∧ ρ 13 ≤ 8 := r13
  have r14 : (0 : Int) ≤ ρ 14 ∧ ρ 14 ≤ 8 := r14
  have r15 : (0 : Int) ≤ ρ 15 ∧ ρ 15 ≤ 4 := r15
  have r16 : ((-2147483648) : Int) ≤ ρ 16 ∧ ρ 16 ≤ 2147483647 := r16
  have r17 : ((-1) : Int) ≤ ρ 17 ∧ ρ 17 ≤ 19 := r17
  have r18 : ((-1) : Int) ≤ ρ 18 ∧ ρ 18 ≤ 3 := r18
  have r19 : (0 : Int) ≤ ρ 19 ∧ ρ 19 ≤ 4 := r19
  have r20 : (0 : Int) ≤ ρ 20 ∧ ρ 20 ≤ 3 := r20
  have r21 : ((-1) : Int) ≤ ρ 21 ∧ ρ 21 ≤ 7 := r21
  have r22 : ((-2147483648) : Int) ≤ ρ 22 ∧ ρ 22 ≤ 2147483647 := r22
  have r23 : (1 : Int) ≤ ρ 23 ∧ ρ 23 ≤ 1 := r23
  have r24 : (0 : Int) ≤ ρ 24 ∧ ρ 24 ≤ 2000 := r24
  have r25 : (0 : Int) ≤ ρ 25 ∧ ρ 25 ≤ 4 := r25
  have r26 : ((-1) : Int) ≤ ρ 26 ∧ ρ 26 ≤ 7 := r26
  have r27 : ((-1) : Int) ≤ ρ 27 ∧ ρ 27 ≤ 19 := r27
  have r28 : (0 : Int) ≤ ρ 28 ∧ ρ 28 ≤ 20 := r28
  have r29 : ((-2147483648) : Int) ≤ ρ 29 ∧ ρ 29 ≤ 2147483647 := r29
  have r30 : ((-2147483648) : Int) ≤ ρ 30 ∧ ρ 30 ≤ 2147483647 := r30
  have r31 : ((-2147483648) : Int) ≤ ρ 31 ∧ ρ 31 ≤ 2147483647 := r31
  have r32 : (0 : Int) ≤ ρ 32 ∧ ρ 32 ≤ 8 := r32
  have r33 : (0 : Int) ≤ ρ 33 ∧ ρ 33 ≤ 32 := r33
  have r34 : (0 : Int) ≤ ρ 34 ∧ ρ 34 ≤ 5120 := r34
  have r35 : (0 : Int) ≤ ρ 35 ∧ ρ 35 ≤ 8 := r35
  have r36 : (0 : Int) ≤ ρ 36 ∧ ρ 36 ≤ 4 := r36
  have r37 : ((-2147483648) : Int) ≤ ρ 37 ∧ ρ 37 ≤ 2147483647 := r37
  have r38 : ((-1) : Int) ≤ ρ 38 ∧ ρ 38 ≤ 3 := r38
  have r39 : (0 : Int) ≤ ρ 39 ∧ ρ 39 ≤ 3 := r39
  have r40 : ((-2147483648) : Int) ≤ ρ 40 ∧ ρ 40 ≤ 2147483647 := r40
  have r41 : ((-2147483648) : Int) ≤ ρ 41 ∧ ρ 41 ≤ 2147483647 := r41
  obtain ⟨f0, f1, f2, f3, -⟩ := hf
  have f0 : (0 : Int) ≤ ρ 28 + -ρ 6 := f0
  have f1 : (0 : Int) ≤ ρ 34 + -ρ 12 := f1
  have f2 : (0 : Int) ≤ -ρ 27 + ρ 17 := f2
  have f3 : (0 : Int) ≤ -ρ 35 + ρ 14 := f3
  obtain ⟨m0, m1, m2, m3, m4, m5, m6, m7, m8, m9, m10, m11, m12, m13, m14, m15, m16, m17, m18, m19, m20, m21, m22, m23, m24, m25, m26, m27, m28, m29, m30, m31, m32, m33, m34, m35, m36, m37, m38, m39, m40, m41, m42, m43, m44, m45, m46, m47, m48, -⟩ := hm
  have m0 : γ 0 1 0 10 = ρ 0 := m0
  have m1 : γ 0 40 0 (ρ 0) = ρ 1 := m1
  have m2 : γ 0 9 (ρ 1) 2 = ρ 2 := m2
  have m3 : γ 0 2 0 6 = ρ 3 := m3
  have m4 : γ 0 2 0 3 = ρ 4 := m4
  have m5 : γ 0 2 0 7 = ρ 5 := m5
  have m6 : γ 0 1 0 7 = ρ 6 := m6
  have m7 : γ 0 2 0 4 = ρ 7 := m7
  have m8 : γ 0 2 0 5 = ρ 8 := m8
  have m9 : γ 0 2 0 9 = ρ 9 := m9
  have m10 : γ 0 2 0 13 = ρ 10 := m10
  have m11 : γ 0 2 0 16 = ρ 11 := m11
  have m12 : γ 0 3 0 1 = ρ 12 := m12
  have m13 : γ 0 9 (ρ 1) 3 = ρ 13 := m13
  have m14 : γ 0 10 (9 * ρ 1) 4 = ρ 14 := m14
  have m15 : γ 0 10 (9 * ρ 1) 5 = ρ 15 := m15
  have m16 : γ 0 10 (9 * ρ 1) 7 = ρ 16 := m16
  have m17 : γ 0 10 (9 * ρ 1) 8 = ρ 17 := m17
  have m18 : γ 0 10 (9 * ρ 1) 9 = ρ 18 := m18
  have m19 : γ 0 10 (9 * ρ 1) 12 = ρ 19 := m19
  have m20 : γ 0 10 (9 * ρ 1) 13 = ρ 20 := m20
  have m21 : γ 0 10 (9 * ρ 1) 14 = ρ 21 := m21
  have m22 : γ 0 10 (9 * ρ 1) 15 = ρ 22 := m22
  have m23 : γ 0 0 0 7 = ρ 23 := m23
  have m24 : γ 2 2 0 5 = 0 := m24
  have m25 : γ 2 2 0 6 = 0 := m25
  have m26 : γ 2 2 0 7 = 1 := m26
  have m27 : γ 2 2 0 13 = 0 := m27
  have m28 : γ 2 2 0 16 = 0 := m28
  have m29 : γ 3 9 (ρ 1) 2 = 0 := m29
  have m30 : γ 3 2 0 6 = ρ 24 := m30
  have m31 : γ 3 10 (9 * ρ 1) 12 = ρ 25 := m31
  have m32 : γ 3 10 (9 * ρ 1) 14 = ρ 26 := m32
  have m33 : γ 3 10 (9 * ρ 1) 8 = ρ 27 := m33
  have m34 : γ 3 1 0 7 = ρ 28 := m34
  have m35 : γ 3 2 0 4 = ρ 29 := m35
  have m36 : γ 3 2 0 5 = ρ 30 := m36
  have m37 : γ 3 2 0 9 = ρ 31 := m37
  have m38 : γ 3 2 0 13 = ρ 32 := m38
  have m39 : γ 3 2 0 16 = ρ 33 := m39
  have m40 : γ 3 3 0 1 = ρ 34 := m40
  have m41 : γ 3 9 (ρ 1) 3 = 0 := m41
  have m42 : γ 3 10 (9 * ρ 1) 4 = ρ 35 := m42
  have m43 : γ 3 10 (9 * ρ 1) 5 = ρ 36 := m43
  have m44 : γ 3 10 (9 * ρ 1) 7 = ρ 37 := m44
  have m45 : γ 3 10 (9 * ρ 1) 9 = ρ 38 := m45
  have m46 : γ 3 10 (9 * ρ 1) 13 = ρ 39 := m46
  have m47 : γ 3 10 (9 * ρ 1) 15 = ρ 40 := m47
  have m48 : γ 4 2 0 3 = 0 := m48
  obtain ⟨⟨⟨⟨-, c1⟩, c2⟩, c3⟩, c4⟩ := hc
  have c1 : ∀ (G : Nat) (k j : Int), ¬ rMdP m0_ G j → γ 1 G k j = γ 0 G k j := c1
  have c2 : ∀ (G : Nat) (k j : Int), ¬ rMdP m74_ G j → γ 2 G k j = γ 1 G k j := c2
  have c3 : ∀ (G : Nat) (k j : Int), ¬ rMdP m100_ G j → γ 3 G k j = γ 2 G k j := c3
  have c4 : ∀ (G : Nat) (k j : Int), ¬ rMdP m75_ G j → γ 4 G k j = γ 3 G k j := c4
  obtain ⟨l0, l1, l2, l3, l4, -⟩ := hl
  have l0 : sn131 [ρ 0, ρ 1] (γ 0) 0 (ρ 1) (γ 1) := hS131 _ _ _ _ _ l0
  have l1 : sn111 [1, ρ 8, ρ 3, ρ 5, ρ 10, ρ 11] (γ 1) 0 0 (γ 2) := hS111 _ _ _ _ _ l1
  have l2 : sn146 [ρ 0, ρ 1, ρ 2, 0, ρ 4, ρ 19, ρ 21, ρ 17, 1, ρ 6, ρ 7, 0, ρ 9, 0, 0, ρ 12, ρ 13, ρ 14, ρ 15, ρ 16, ρ 18, ρ 20, ρ 22] (γ 2) 0 0 (γ 3) := hS146 _ _ _ _ _ l2
  have l3 : sn112 [ρ 4] (γ 3) 0 0 (γ 4) := hS112 _ _ _ _ _ l3
  have l4 : zOpP (.isub) (γ 0) (γ 1) [(-2), ρ 29] (ρ 41) := l4
  show sr221 [ρ 0, ρ 1, ρ 2, ρ 3, ρ 4, ρ 5, ρ 6, ρ 7, ρ 8, ρ 9, ρ 10, ρ 11, ρ 12, ρ 13, ρ 14, ρ 15, ρ 16, ρ 17, ρ 18, ρ 19, ρ 20, ρ 21, ρ 22] (γ 0) 0 (ρ 41) (γ 4)
  have h7 : γ 0 0 0 7 ≠ 0 := by rw [m23]; omega
  have e1 : γ 1 = γ 0 := congrArg (fun r : zR => r.2.2) l0
  have e2 : γ 2 = qUc 1 (γ 1) := congrArg (fun r : zR => r.2.2) l1
  have e3 : γ 3 = (fn146 [] (γ 2)).2.2 := congrArg (fun r : zR => r.2.2) l2
  have hb : hF1 (γ 0) = rUp (γ 3) 2 0 3 0 := by
    unfold hF1
    rw [if_pos h7, ← e1, ← e2, ← e3]
  show eqC (hF1 (γ 0)) (γ 4)
  have k1 : eqC (rUp (γ 3) 2 0 3 0) (γ 4) := by
    rw [f112 l3]
    exact eqC_3 eqC_rf
  rw [hb]
  exact eqC_tr k1 eqC_rf
theorem wn221_1 {S : Nat → zSpc} (hS111 : ∀ x g o v gz, S 111 x g o v gz → sn111 x g o v gz) (hS112 : ∀ x g o v gz, S 112 x g o v gz → sn112 x g o v gz) (hS131 : ∀ x g o v gz, S 131 x g o v gz → sn131 x g o v gz) (hS146 : ∀ x g o v gz, S 146 x g o v gz → sn146 x g o v gz) (hS147 : ∀ x g o v gz, S 147 x g o v gz → sn147 x g o v gz) (hS149 : ∀ x g o v gz, S 149 x g o v gz → sn149 x g o v gz) {a : List Int} {g : rHp} : ∀ (ρ : Nat → Int) (γ : Nat → rHp), zO 23 S a g q221_1 ρ γ → zGl (fun i vs g1 => jr221 a g i vs g1) (sr221 a g) q221_1 ρ γ := by
  intro ρ γ h
  obtain ⟨ha, hg, hr, hf, hm, hc, hl⟩ := h
  have ha : a = [ρ 0, ρ 1, ρ 2, ρ 3, ρ 4, ρ 5, ρ 6, ρ 7, ρ 8, ρ 9, ρ 10, ρ 11, ρ 12, ρ 13, ρ 14, ρ 15, ρ 16, ρ 17, ρ 18, ρ 19, ρ 20, ρ 21, ρ 22] := ha
  subst ha
  subst hg
  obtain ⟨r0, r1, r2, r3, r4, r5, r6, r7, r8, r9, r10, r11, r12, r13, r14, r15, r16, r17, r18, r19, r20, r21, r22, r23, r24, r25, r26, r27, r28, r29, r30, r31, r32, r33, r34, r35, r36, r37, r38, r39, r40, -⟩ := hr
  have r0 : (0 : Int) ≤ ρ 0 ∧ ρ 0 ≤ 60 := r0
  have r1 : (0 : Int) ≤ ρ 1 ∧ ρ 1 ≤ 60 := r1
  have r2 : (0 : Int) ≤ ρ 2 ∧ ρ 2 ≤ 8 := r2
  have r3 : (0 : Int) ≤ ρ 3 ∧ ρ 3 ≤ 2001 := r3
  have r4 : (2 : Int) ≤ ρ 4 ∧ ρ 4 ≤ 2000 := r4
  have r5 : (0 : Int) ≤ ρ 5 ∧ ρ 5 ≤ 2 := r5
  have r6 : (0 : Int) ≤ ρ 6 ∧ ρ 6 ≤ 20 := r6
  have r7 : ((-2147483648) : Int) ≤ ρ 7 ∧ ρ 7 ≤ 2147483647 := r7
  have r8 : ((-2147483648) : Int) ≤ ρ 8 ∧ ρ 8 ≤ 2147483647 := r8
  have r9 : ((-2147483648) : Int) ≤ ρ 9 ∧ ρ 9 ≤ 2147483647 := r9
  have r10 : (0 : Int) ≤ ρ 10 ∧ ρ 10 ≤ 8 := r10
  have r11 : (0 : Int) ≤ ρ 11 ∧ ρ 11 ≤ 32 := r11
  have r12 : (0 : Int) ≤ ρ 12 ∧ ρ 12 ≤ 5120 := r12
  have r13 : (0 : Int) ≤ ρ 13 ∧ ρ 13 ≤ 8 := r13
  have r14 : (0 : Int) ≤ ρ 14 ∧ ρ 14 ≤ 8 := r14
  have r15 : (0 : Int) ≤ ρ 15 ∧ ρ 15 ≤ 4 := r15
  have r16 : ((-2147483648) : Int) ≤ ρ 16 ∧ ρ 16 ≤ 2147483647 := r16
  have r17 : ((-1) : Int) ≤ ρ 17 ∧ ρ 17 ≤ 19 := r17
  have r18 : ((-1) : Int) ≤ ρ 18 ∧ ρ 18 ≤ 3 := r18
  have r19 : (0 : Int) ≤ ρ 19 ∧ ρ 19 ≤ 4 := r19
  have r20 : (0 : Int) ≤ ρ 20 ∧ ρ 20 ≤ 3 := r20
  have r21 : ((-1) : Int) ≤ ρ 21 ∧ ρ 21 ≤ 7 := r21
  have r22 : ((-2147483648) : Int) ≤ ρ 22 ∧ ρ 22 ≤ 2147483647 := r22
  have r23 : (1 : Int) ≤ ρ 23 ∧ ρ 23 ≤ 1 := r23
  have r24 : (3 : Int) ≤ ρ 24 ∧ ρ 24 ≤ 2000 := r24
  have r25 : (0 : Int) ≤ ρ 25 ∧ ρ 25 ≤ 4 := r25
  have r26 : ((-1) : Int) ≤ ρ 26 ∧ ρ 26 ≤ 7 := r26
  have r27 : ((-1) : Int) ≤ ρ 27 ∧ ρ 27 ≤ (-1) := r27
  have r28 : ((-2147483648) : Int) ≤ ρ 28 ∧ ρ 28 ≤ 2147483647 := r28
  have r29 : ((-2147483648) : Int) ≤ ρ 29 ∧ ρ 29 ≤ 2147483647 := r29
  have r30 : (0 : Int) ≤ ρ 30 ∧ ρ 30 ≤ 8 := r30
  have r31 : (0 : Int) ≤ ρ 31 ∧ ρ 31 ≤ 32 := r31
  have r32 : (0 : Int) ≤ ρ 32 ∧ ρ 32 ≤ 5120 := r32
  have r33 : (0 : Int) ≤ ρ 33 ∧ ρ 33 ≤ 0 := r33
  have r34 : (1 : Int) ≤ ρ 34 ∧ ρ 34 ≤ 4 := r34
  have r35 : (0 : Int) ≤ ρ 35 ∧ ρ 35 ≤ 1999 := r35
  have r36 : ((-1) : Int) ≤ ρ 36 ∧ ρ 36 ≤ 3 := r36
  have r37 : (0 : Int) ≤ ρ 37 ∧ ρ 37 ≤ 3 := r37
  have r38 : ((-2147483648) : Int) ≤ ρ 38 ∧ ρ 38 ≤ 2147483647 := r38
  have r39 : ((-2147483648) : Int) ≤ ρ 39 ∧ ρ 39 ≤ 2147483647 := r39
  have r40 : ((-2147483648) : Int) ≤ ρ 40 ∧ ρ 40 ≤ 2147483647 := r40
  obtain ⟨f0, f1, f2, f3, f4, f5, f6, f7, f8, -⟩ := hf
  have f0 : (0 : Int) ≤ -ρ 34 + ρ 24 + (-1) := f0
  have f1 : (0 : Int) ≤ -ρ 35 + ρ 24 + (-1) := f1
  have f2 : (0 : Int) ≤ -ρ 36 + ρ 24 + (-1) := f2
  have f3 : (0 : Int) ≤ ρ 32 + -ρ 12 := f3
  have f4 : (0 : Int) ≤ -ρ 24 + ρ 4 := f4
  have f5 : (0 : Int) ≤ -ρ 37 + ρ 4 := f5
  have f6 : (0 : Int) ≤ -ρ 18 + ρ 4 := f6
  have f7 : (0 : Int) ≤ -ρ 20 + ρ 4 := f7
  have f8 : (0 : Int) ≤ 3 * ρ 26 + -ρ 25 + 4 := f8
  obtain ⟨m0, m1, m2, m3, m4, m5, m6, m7, m8, m9, m10, m11, m12, m13, m14, m15, m16, m17, m18, m19, m20, m21, m22, m23, m24, m25, m26, m27, m28, m29, m30, m31, m32, m33, m34, m35, m36, m37, m38, m39, m40, m41, m42, m43, m44, m45, m46, m47, m48, m49, -⟩ := hm
  have m0 : γ 0 1 0 10 = ρ 0 := m0
  have m1 : γ 0 40 0 (ρ 0) = ρ 1 := m1
  have m2 : γ 0 9 (ρ 1) 2 = ρ 2 := m2
  have m3 : γ 0 2 0 6 = ρ 3 := m3
  have m4 : γ 0 2 0 3 = ρ 4 := m4
  have m5 : γ 0 2 0 7 = ρ 5 := m5
  have m6 : γ 0 1 0 7 = ρ 6 := m6
  have m7 : γ 0 2 0 4 = ρ 7 := m7
  have m8 : γ 0 2 0 5 = ρ 8 := m8
  have m9 : γ 0 2 0 9 = ρ 9 := m9
  have m10 : γ 0 2 0 13 = ρ 10 := m10
  have m11 : γ 0 2 0 16 = ρ 11 := m11
  have m12 : γ 0 3 0 1 = ρ 12 := m12
  have m13 : γ 0 9 (ρ 1) 3 = ρ 13 := m13
  have m14 : γ 0 10 (9 * ρ 1) 4 = ρ 14 := m14
  have m15 : γ 0 10 (9 * ρ 1) 5 = ρ 15 := m15
  have m16 : γ 0 10 (9 * ρ 1) 7 = ρ 16 := m16
  have m17 : γ 0 10 (9 * ρ 1) 8 = ρ 17 := m17
  have m18 : γ 0 10 (9 * ρ 1) 9 = ρ 18 := m18
  have m19 : γ 0 10 (9 * ρ 1) 12 = ρ 19 := m19
  have m20 : γ 0 10 (9 * ρ 1) 13 = ρ 20 := m20
  have m21 : γ 0 10 (9 * ρ 1) 14 = ρ 21 := m21
  have m22 : γ 0 10 (9 * ρ 1) 15 = ρ 22 := m22
  have m23 : γ 0 0 0 7 = ρ 23 := m23
  have m24 : γ 2 2 0 5 = 0 := m24
  have m25 : γ 2 2 0 6 = 0 := m25
  have m26 : γ 2 2 0 7 = 1 := m26
  have m27 : γ 2 2 0 13 = 0 := m27
  have m28 : γ 2 2 0 16 = 0 := m28
  have m29 : γ 3 9 (ρ 1) 2 = 0 := m29
  have m30 : γ 3 2 0 6 = ρ 24 := m30
  have m31 : γ 3 10 (9 * ρ 1) 12 = ρ 25 := m31
  have m32 : γ 3 10 (9 * ρ 1) 14 = ρ 26 := m32
  have m33 : γ 3 10 (9 * ρ 1) 8 = ρ 27 := m33
  have m34 : γ 3 1 0 7 = ρ 6 := m34
  have m35 : γ 3 2 0 4 = ρ 7 := m35
  have m36 : γ 3 2 0 5 = ρ 28 := m36
  have m37 : γ 3 2 0 9 = ρ 29 := m37
  have m38 : γ 3 2 0 13 = ρ 30 := m38
  have m39 : γ 3 2 0 16 = ρ 31 := m39
  have m40 : γ 3 3 0 1 = ρ 32 := m40
  have m41 : γ 3 9 (ρ 1) 3 = 0 := m41
  have m42 : γ 3 10 (9 * ρ 1) 4 = ρ 33 := m42
  have m43 : γ 3 10 (9 * ρ 1) 5 = ρ 34 := m43
  have m44 : γ 3 10 (9 * ρ 1) 7 = ρ 35 := m44
  have m45 : γ 3 10 (9 * ρ 1) 9 = ρ 36 := m45
  have m46 : γ 3 10 (9 * ρ 1) 13 = ρ 37 := m46
  have m47 : γ 3 10 (9 * ρ 1) 15 = ρ 38 := m47
  have m48 : γ 4 2 0 4 = ρ 39 := m48
  have m49 : γ 5 2 0 3 = 0 := m49
  obtain ⟨⟨⟨⟨⟨-, c1⟩, c2⟩, c3⟩, c4⟩, c5⟩ := hc
  have c1 : ∀ (G : Nat) (k j : Int), ¬ rMdP m0_ G j → γ 1 G k j = γ 0 G k j := c1
  have c2 : ∀ (G : Nat) (k j : Int), ¬ rMdP m74_ G j → γ 2 G k j = γ 1 G k j := c2
  have c3 : ∀ (G : Nat) (k j : Int), ¬ rMdP m100_ G j → γ 3 G k j = γ 2 G k j := c3
  have c4 : ∀ (G : Nat) (k j : Int), ¬ rMdP m72_ G j → γ 4 G k j = γ 3 G k j := c4
  have c5 : ∀ (G : Nat) (k j : Int), ¬ rMdP m75_ G j → γ 5 G k j = γ 4 G k j := c5
  obtain ⟨l0, l1, l2, l3, l4, l5, -⟩ := hl
  have l0 : sn131 [ρ 0, ρ 1] (γ 0) 0 (ρ 1) (γ 1) := hS131 _ _ _ _ _ l0
  have l1 : sn111 [1, ρ 8, ρ 3, ρ 5, ρ 10, ρ 11] (γ 1) 0 0 (γ 2) := hS111 _ _ _ _ _ l1
  have l2 : sn146 [ρ 0, ρ 1, ρ 2, 0, ρ 4, ρ 19, ρ 21, ρ 17, 1, ρ 6, ρ 7, 0, ρ 9, 0, 0, ρ 12, ρ 13, ρ 14, ρ 15, ρ 16, ρ 18, ρ 20, ρ 22] (γ 2) 0 1 (γ 3) := hS146 _ _ _ _ _ l2
  have l3 : sn147 [9 * ρ 1, ρ 7, ρ 34] (γ 3) 0 0 (γ 4) := hS147 _ _ _ _ _ l3
  have l4 : sn112 [ρ 4] (γ 4) 0 0 (γ 5) := hS112 _ _ _ _ _ l4
  have l5 : zOpP (.isub) (γ 0) (γ 1) [(-2), ρ 39] (ρ 40) := l5
  show sr221 [ρ 0, ρ 1, ρ 2, ρ 3, ρ 4, ρ 5, ρ 6, ρ 7, ρ 8, ρ 9, ρ 10, ρ 11, ρ 12, ρ 13, ρ 14, ρ 15, ρ 16, ρ 17, ρ 18, ρ 19, ρ 20, ρ 21, ρ 22] (γ 0) 0 (ρ 40) (γ 5)
  have h7 : γ 0 0 0 7 ≠ 0 := by rw [m23]; omega
  have e1 : γ 1 = γ 0 := congrArg (fun r : zR => r.2.2) l0
  have e2 : γ 2 = qUc 1 (γ 1) := congrArg (fun r : zR => r.2.2) l1
  have e3 : γ 3 = (fn146 [] (γ 2)).2.2 := congrArg (fun r : zR => r.2.2) l2
  have hb : hF1 (γ 0) = rUp (γ 3) 2 0 3 0 := by
    unfold hF1
    rw [if_pos h7, ← e1, ← e2, ← e3]
  show eqC (hF1 (γ 0)) (γ 5)
  have k1 : eqC (rUp (γ 3) 2 0 3 0) (γ 5) := by
    rw [f112 l4]
    exact eqC_3 (eqC_k (ms := m72_) (by decide +kernel) c4)
  rw [hb]
  exact eqC_tr k1 eqC_rf
theorem wn221_2 {S : Nat → zSpc} (hS111 : ∀ x g o v gz, S 111 x g o v gz → sn111 x g o v gz) (hS112 : ∀ x g o v gz, S 112 x g o v gz → sn112 x g o v gz) (hS131 : ∀ x g o v gz, S 131 x g o v gz → sn131 x g o v gz) (hS146 : ∀ x g o v gz, S 146 x g o v gz → sn146 x g o v gz) (hS147 : ∀ x g o v gz, S 147 x g o v gz → sn147 x g o v gz) (hS149 : ∀ x g o v gz, S 149 x g o v gz → sn149 x g o v gz) {a : List Int} {g : rHp} : ∀ (ρ : Nat → Int) (γ : Nat → rHp), zO 23 S a g q221_2 ρ γ → zGl (fun i vs g1 => jr221 a g i vs g1) (sr221 a g) q221_2 ρ γ := by
  intro ρ γ h
  obtain ⟨ha, hg, hr, hf, hm, hc, hl⟩ := h
  have ha : a = [ρ 0, ρ 1, ρ 2, ρ 3, ρ 4, ρ 5, ρ 6, ρ 7, ρ 8, ρ 9, ρ 10, ρ 11, ρ 12, ρ 13, ρ 14, ρ 15, ρ 16, ρ 17, ρ 18, ρ 19, ρ 20, ρ 21, ρ 22] := ha
  subst ha
  subst hg
  obtain ⟨r0, r1, r2, r3, r4, r5, r6, r7, r8, r9, r10, r11, r12, r13, r14, r15, r16, r17, r18, r19, r20, r21, r22, r23, r24, r25, r26, r27, r28, r29, r30, r31, r32, r33, r34, r35, r36, r37, r38, r39, r40, -⟩ := hr
  have r0 : (0 : Int) ≤ ρ 0 ∧ ρ 0 ≤ 60 := r0
  have r1 : (0 : Int) ≤ ρ 1 ∧ ρ 1 ≤ 60 := r1
  have r2 : (0 : Int) ≤ ρ 2 ∧ ρ 2 ≤ 8 := r2
  have r3 : (0 : Int) ≤ ρ 3 ∧ ρ 3 ≤ 2001 := r3
  have r4 : (2 : Int) ≤ ρ 4 ∧ ρ 4 ≤ 2000 := r4
  have r5 : (0 : Int) ≤ ρ 5 ∧ ρ 5 ≤ 2 := r5
  have r6 : (0 : Int) ≤ ρ 6 ∧ ρ 6 ≤ 20 := r6
  have r7 : ((-2147483648) : Int) ≤ ρ 7 ∧ ρ 7 ≤ 2147483647 := r7
  have r8 : ((-2147483648) : Int) ≤ ρ 8 ∧ ρ 8 ≤ 2147483647 := r8
  have r9 : ((-2147483648) : Int) ≤ ρ 9 ∧ ρ 9 ≤ 2147483647 := r9
  have r10 : (0 : Int) ≤ ρ 10 ∧ ρ 10 ≤ 8 := r10
  have r11 : (0 : Int) ≤ ρ 11 ∧ ρ 11 ≤ 32 := r11
  have r12 : (0 : Int) ≤ ρ 12 ∧ ρ 12 ≤ 5120 := r12
  have r13 : (0 : Int) ≤ ρ 13 ∧ ρ 13 ≤ 8 := r13
  have r14 : (0 : Int) ≤ ρ 14 ∧ ρ 14 ≤ 8 := r14
  have r15 : (0 : Int) ≤ ρ 15 ∧ ρ 15 ≤ 4 := r15
  have r16 : ((-2147483648) : Int) ≤ ρ 16 ∧ ρ 16 ≤ 2147483647 := r16
  have r17 : ((-1) : Int) ≤ ρ 17 ∧ ρ 17 ≤ 19 := r17
  have r18 : ((-1) : Int) ≤ ρ 18 ∧ ρ 18 ≤ 3 := r18
  have r19 : (0 : Int) ≤ ρ 19 ∧ ρ 19 ≤ 4 := r19
  have r20 : (0 : Int) ≤ ρ 20 ∧ ρ 20 ≤ 3 := r20
  have r21 : ((-1) : Int) ≤ ρ 21 ∧ ρ 21 ≤ 7 := r21
  have r22 : ((-2147483648) : Int) ≤ ρ 22 ∧ ρ 22 ≤ 2147483647 := r22
  have r23 : (1 : Int) ≤ ρ 23 ∧ ρ 23 ≤ 1 := r23
  have r24 : (3 : Int) ≤ ρ 24 ∧ ρ 24 ≤ 2000 := r24
  have r25 : (0 : Int) ≤ ρ 25 ∧ ρ 25 ≤ 4 := r25
  have r26 : ((-1) : Int) ≤ ρ 26 ∧ ρ 26 ≤ 7 := r26
  have r27 : ((-1) : Int) ≤ ρ 27 ∧ ρ 27 ≤ (-1) := r27
  have r28 : ((-2147483648) : Int) ≤ ρ 28 ∧ ρ 28 ≤ 2147483647 := r28
  have r29 : ((-2147483648) : Int) ≤ ρ 29 ∧ ρ 29 ≤ 2147483647 := r29
  have r30 : (0 : Int) ≤ ρ 30 ∧ ρ 30 ≤ 8 := r30
  have r31 : (0 : Int) ≤ ρ 31 ∧ ρ 31 ≤ 32 := r31
  have r32 : (0 : Int) ≤ ρ 32 ∧ ρ 32 ≤ 5120 := r32
  have r33 : (0 : Int) ≤ ρ 33 ∧ ρ 33 ≤ 0 := r33
  have r34 : (1 : Int) ≤ ρ 34 ∧ ρ 34 ≤ 4 := r34
  have r35 : (0 : Int) ≤ ρ 35 ∧ ρ 35 ≤ 1999 := r35
  have r36 : ((-1) : Int) ≤ ρ 36 ∧ ρ 36 ≤ 3 := r36
  have r37 : (0 : Int) ≤ ρ 37 ∧ ρ 37 ≤ 3 := r37
  have r38 : ((-2147483648) : Int) ≤ ρ 38 ∧ ρ 38 ≤ 2147483647 := r38
  have r39 : (0 : Int) ≤ ρ 39 ∧ ρ 39 ≤ 2000 := r39
  have r40 : (0 : Int) ≤ ρ 40 ∧ ρ 40 ≤ 2000 := r40
  obtain ⟨f0, f1, f2, f3, f4, f5, f6, f7, f8, f9, f10, f11, f12, f13, -⟩ := hf
  have f0 : (0 : Int) ≤ -ρ 40 + ρ 39 := f0
  have f1 : (0 : Int) ≤ ρ 39 + -ρ 24 := f1
  have f2 : (0 : Int) ≤ ρ 40 + -ρ 39 := f2
  have f3 : (0 : Int) ≤ -ρ 39 + ρ 4 + (-1) := f3
  have f4 : (0 : Int) ≤ -ρ 24 + ρ 4 + (-1) := f4
  have f5 : (0 : Int) ≤ -ρ 34 + ρ 24 + (-1) := f5
  have f6 : (0 : Int) ≤ -ρ 35 + ρ 24 + (-1) := f6
  have f7 : (0 : Int) ≤ -ρ 36 + ρ 24 + (-1) := f7
  have f8 : (0 : Int) ≤ ρ 32 + -ρ 12 := f8
  have f9 : (0 : Int) ≤ -ρ 24 + ρ 4 := f9
  have f10 : (0 : Int) ≤ -ρ 37 + ρ 4 := f10
  have f11 : (0 : Int) ≤ -ρ 18 + ρ 4 := f11
  have f12 : (0 : Int) ≤ -ρ 20 + ρ 4 := f12
  have f13 : (0 : Int) ≤ 3 * ρ 26 + -ρ 25 + 4 := f13
  obtain ⟨m0, m1, m2, m3, m4, m5, m6, m7, m8, m9, m10, m11, m12, m13, m14, m15, m16, m17, m18, m19, m20, m21, m22, m23, m24, m25, m26, m27, m28, m29, m30, m31, m32, m33, m34, m35, m36, m37, m38, m39, m40, m41, m42, m43, m44, m45, m46, m47, m48, m49, m50, m51, -⟩ := hm
  have m0 : γ 0 1 0 10 = ρ 0 := m0
  have m1 : γ 0 40 0 (ρ 0) = ρ 1 := m1
  have m2 : γ 0 9 (ρ 1) 2 = ρ 2 := m2
  have m3 : γ 0 2 0 6 = ρ 3 := m3
  have m4 : γ 0 2 0 3 = ρ 4 := m4
  have m5 : γ 0 2 0 7 = ρ 5 := m5
  have m6 : γ 0 1 0 7 = ρ 6 := m6
  have m7 : γ 0 2 0 4 = ρ 7 := m7
  have m8 : γ 0 2 0 5 = ρ 8 := m8
  have m9 : γ 0 2 0 9 = ρ 9 := m9
  have m10 : γ 0 2 0 13 = ρ 10 := m10
  have m11 : γ 0 2 0 16 = ρ 11 := m11
  have m12 : γ 0 3 0 1 = ρ 12 := m12
  have m13 : γ 0 9 (ρ 1) 3 = ρ 13 := m13
  have m14 : γ 0 10 (9 * ρ 1) 4 = ρ 14 := m14
  have m15 : γ 0 10 (9 * ρ 1) 5 = ρ 15 := m15
  have m16 : γ 0 10 (9 * ρ 1) 7 = ρ 16 := m16
  have m17 : γ 0 10 (9 * ρ 1) 8 = ρ 17 := m17
  have m18 : γ 0 10 (9 * ρ 1) 9 = ρ 18 := m18
  have m19 : γ 0 10 (9 * ρ 1) 12 = ρ 19 := m19
  have m20 : γ 0 10 (9 * ρ 1) 13 = ρ 20 := m20
  have m21 : γ 0 10 (9 * ρ 1) 14 = ρ 21 := m21
  have m22 : γ 0 10 (9 * ρ 1) 15 = ρ 22 := m22
  have m23 : γ 0 0 0 7 = ρ 23 := m23
  have m24 : γ 2 2 0 5 = 0 := m24
  have m25 : γ 2 2 0 6 = 0 := m25
  have m26 : γ 2 2 0 7 = 1 := m26
  have m27 : γ 2 2 0 13 = 0 := m27
  have m28 : γ 2 2 0 16 = 0 := m28
  have m29 : γ 3 9 (ρ 1) 2 = 0 := m29
  have m30 : γ 3 2 0 6 = ρ 24 := m30
  have m31 : γ 3 10 (9 * ρ 1) 12 = ρ 25 := m31
  have m32 : γ 3 10 (9 * ρ 1) 14 = ρ 26 := m32
  have m33 : γ 3 10 (9 * ρ 1) 8 = ρ 27 := m33
  have m34 : γ 3 1 0 7 = ρ 6 := m34
  have m35 : γ 3 2 0 4 = ρ 7 := m35
  have m36 : γ 3 2 0 5 = ρ 28 := m36
  have m37 : γ 3 2 0 9 = ρ 29 := m37
  have m38 : γ 3 2 0 13 = ρ 30 := m38
  have m39 : γ 3 2 0 16 = ρ 31 := m39
  have m40 : γ 3 3 0 1 = ρ 32 := m40
  have m41 : γ 3 9 (ρ 1) 3 = 0 := m41
  have m42 : γ 3 10 (9 * ρ 1) 4 = ρ 33 := m42
  have m43 : γ 3 10 (9 * ρ 1) 5 = ρ 34 := m43
  have m44 : γ 3 10 (9 * ρ 1) 7 = ρ 35 := m44
  have m45 : γ 3 10 (9 * ρ 1) 9 = ρ 36 := m45
  have m46 : γ 3 10 (9 * ρ 1) 13 = ρ 37 := m46
  have m47 : γ 3 10 (9 * ρ 1) 15 = ρ 38 := m47
  have m48 : γ 4 2 0 4 = ρ 7 := m48
  have m49 : γ 5 2 0 6 = ρ 39 := m49
  have m50 : γ 5 2 0 4 = ρ 40 := m50
  have m51 : γ 6 2 0 3 = 0 := m51
  obtain ⟨⟨⟨⟨⟨⟨-, c1⟩, c2⟩, c3⟩, c4⟩, c5⟩, c6⟩ := hc
  have c1 : ∀ (G : Nat) (k j : Int), ¬ rMdP m0_ G j → γ 1 G k j = γ 0 G k j := c1
  have c2 : ∀ (G : Nat) (k j : Int), ¬ rMdP m74_ G j → γ 2 G k j = γ 1 G k j := c2
  have c3 : ∀ (G : Nat) (k j : Int), ¬ rMdP m100_ G j → γ 3 G k j = γ 2 G k j := c3
  have c4 : ∀ (G : Nat) (k j : Int), ¬ rMdP m72_ G j → γ 4 G k j = γ 3 G k j := c4
  have c5 : ∀ (G : Nat) (k j : Int), ¬ rMdP m101_ G j → γ 5 G k j = γ 4 G k j := c5
  have c6 : ∀ (G : Nat) (k j : Int), ¬ rMdP m75_ G j → γ 6 G k j = γ 5 G k j := c6
  obtain ⟨l0, l1, l2, l3, l4, l5, -⟩ := hl
  have l0 : sn131 [ρ 0, ρ 1] (γ 0) 0 (ρ 1) (γ 1) := hS131 _ _ _ _ _ l0
  have l1 : sn111 [1, ρ 8, ρ 3, ρ 5, ρ 10, ρ 11] (γ 1) 0 0 (γ 2) := hS111 _ _ _ _ _ l1
  have l2 : sn146 [ρ 0, ρ 1, ρ 2, 0, ρ 4, ρ 19, ρ 21, ρ 17, 1, ρ 6, ρ 7, 0, ρ 9, 0, 0, ρ 12, ρ 13, ρ 14, ρ 15, ρ 16, ρ 18, ρ 20, ρ 22] (γ 2) 0 1 (γ 3) := hS146 _ _ _ _ _ l2
  have l3 : sn147 [9 * ρ 1, ρ 7, ρ 34] (γ 3) 0 1 (γ 4) := hS147 _ _ _ _ _ l3
  have l4 : sn149 [ρ 24, ρ 4, ρ 7] (γ 4) 0 0 (γ 5) := hS149 _ _ _ _ _ l4
  have l5 : sn112 [ρ 4] (γ 5) 0 0 (γ 6) := hS112 _ _ _ _ _ l5
  show sr221 [ρ 0, ρ 1, ρ 2, ρ 3, ρ 4, ρ 5, ρ 6, ρ 7, ρ 8, ρ 9, ρ 10, ρ 11, ρ 12, ρ 13, ρ 14, ρ 15, ρ 16, ρ 17, ρ 18, ρ 19, ρ 20, ρ 21, ρ 22] (γ 0) 0 (-ρ 40 + (-2)) (γ 6)
  have h7 : γ 0 0 0 7 ≠ 0 := by rw [m23]; omega
  have e1 : γ 1 = γ 0 := congrArg (fun r : zR => r.2.2) l0
  have e2 : γ 2 = qUc 1 (γ 1) := congrArg (fun r : zR => r.2.2) l1
  have e3 : γ 3 = (fn146 [] (γ 2)).2.2 := congrArg (fun r : zR => r.2.2) l2
  have hb : hF1 (γ 0) = rUp (γ 3) 2 0 3 0 := by
    unfold hF1
    rw [if_pos h7, ← e1, ← e2, ← e3]
  show eqC (hF1 (γ 0)) (γ 6)
  have k1 : eqC (rUp (γ 3) 2 0 3 0) (γ 6) := by
    rw [f112 l5]
    exact eqC_3 (eqC_tr (eqC_k (ms := m72_) (by decide +kernel) c4) (eqC_k (ms := m101_) (by decide +kernel) c5))
  rw [hb]
  exact eqC_tr k1 eqC_rf
theorem wn221_3 {S : Nat → zSpc} (hS111 : ∀ x g o v gz, S 111 x g o v gz → sn111 x g o v gz) (hS112 : ∀ x g o v gz, S 112 x g o v gz → sn112 x g o v gz) (hS131 : ∀ x g o v gz, S 131 x g o v gz → sn131 x g o v gz) (hS146 : ∀ x g o v gz, S 146 x g o v gz → sn146 x g o v gz) (hS147 : ∀ x g o v gz, S 147 x g o v gz → sn147 x g o v gz) (hS149 : ∀ x g o v gz, S 149 x g o v gz → sn149 x g o v gz) {a : List Int} {g : rHp} : ∀ (ρ : Nat → Int) (γ : Nat → rHp), zO 23 S a g q221_3 ρ γ → zGl (fun i vs g1 => jr221 a g i vs g1) (sr221 a g) q221_3 ρ γ := by
  intro ρ γ h
  obtain ⟨ha, hg, hr, hf, hm, hc, hl⟩ := h
  have ha : a = [ρ 0, ρ 1, ρ 2, ρ 3, ρ 4, ρ 5, ρ 6, ρ 7, ρ 8, ρ 9, ρ 10, ρ 11, ρ 12, ρ 13, ρ 14, ρ 15, ρ 16, ρ 17, ρ 18, ρ 19, ρ 20, ρ 21, ρ 22] := ha
  subst ha
  subst hg
  obtain ⟨r0, r1, r2, r3, r4, r5, r6, r7, r8, r9, r10, r11, r12, r13, r14, r15, r16, r17, r18, r19, r20, r21, r22, r23, r24, r25, r26, r27, r28, r29, r30, r31, r32, r33, r34, r35, r36, r37, r38, r39, -⟩ := hr
  have r0 : (0 : Int) ≤ ρ 0 ∧ ρ 0 ≤ 60 := r0
  have r1 : (0 : Int) ≤ ρ 1 ∧ ρ 1 ≤ 60 := r1
  have r2 : (0 : Int) ≤ ρ 2 ∧ ρ 2 ≤ 8 := r2
  have r3 : (0 : Int) ≤ ρ 3 ∧ ρ 3 ≤ 2001 := r3
  have r4 : (2 : Int) ≤ ρ 4 ∧ ρ 4 ≤ 2000 := r4
  have r5 : (0 : Int) ≤ ρ 5 ∧ ρ 5 ≤ 2 := r5
  have r6 : (0 : Int) ≤ ρ 6 ∧ ρ 6 ≤ 20 := r6
  have r7 : ((-2147483648) : Int) ≤ ρ 7 ∧ ρ 7 ≤ 2147483647 := r7
  have r8 : ((-2147483648) : Int) ≤ ρ 8 ∧ ρ 8 ≤ 2147483647 := r8
  have r9 : ((-2147483648) : Int) ≤ ρ 9 ∧ ρ 9 ≤ 2147483647 := r9
  have r10 : (0 : Int) ≤ ρ 10 ∧ ρ 10 ≤ 8 := r10
  have r11 : (0 : Int) ≤ ρ 11 ∧ ρ 11 ≤ 32 := r11
  have r12 : (0 : Int) ≤ ρ 12 ∧ ρ 12 ≤ 5120 := r12
  have r13 : (0 : Int) ≤ ρ 13 ∧ ρ 13 ≤ 8 := r13
  have r14 : (0 : Int) ≤ ρ 14 ∧ ρ 14 ≤ 8 := r14
  have r15 : (0 : Int) ≤ ρ 15 ∧ ρ 15 ≤ 4 := r15
  have r16 : ((-2147483648) : Int) ≤ ρ 16 ∧ ρ 16 ≤ 2147483647 := r16
  have r17 : ((-1) : Int) ≤ ρ 17 ∧ ρ 17 ≤ 19 := r17
  have r18 : ((-1) : Int) ≤ ρ 18 ∧ ρ 18 ≤ 3 := r18
  have r19 : (0 : Int) ≤ ρ 19 ∧ ρ 19 ≤ 4 := r19
  have r20 : (0 : Int) ≤ ρ 20 ∧ ρ 20 ≤ 3 := r20
  have r21 : ((-1) : Int) ≤ ρ 21 ∧ ρ 21 ≤ 7 := r21
  have r22 : ((-2147483648) : Int) ≤ ρ 22 ∧ ρ 22 ≤ 2147483647 := r22
  have r23 : (1 : Int) ≤ ρ 23 ∧ ρ 23 ≤ 1 := r23
  have r24 : (3 : Int) ≤ ρ 24 ∧ ρ 24 ≤ 2000 := r24
  have r25 : (0 : Int) ≤ ρ 25 ∧ ρ 25 ≤ 4 := r25
  have r26 : ((-1) : Int) ≤ ρ 26 ∧ ρ 26 ≤ 7 := r26
  have r27 : ((-1) : Int) ≤ ρ 27 ∧ ρ 27 ≤ (-1) := r27
  have r28 : ((-2147483648) : Int) ≤ ρ 28 ∧ ρ 28 ≤ 2147483647 := r28
  have r29 : ((-2147483648) : Int) ≤ ρ 29 ∧ ρ 29 ≤ 2147483647 := r29
  have r30 : (0 : Int) ≤ ρ 30 ∧ ρ 30 ≤ 8 := r30
  have r31 : (0 : Int) ≤ ρ 31 ∧ ρ 31 ≤ 32 := r31
  have r32 : (0 : Int) ≤ ρ 32 ∧ ρ 32 ≤ 5120 := r32
  have r33 : (0 : Int) ≤ ρ 33 ∧ ρ 33 ≤ 0 := r33
  have r34 : (1 : Int) ≤ ρ 34 ∧ ρ 34 ≤ 4 := r34
  have r35 : (0 : Int) ≤ ρ 35 ∧ ρ 35 ≤ 1999 := r35
  have r36 : ((-1) : Int) ≤ ρ 36 ∧ ρ 36 ≤ 3 := r36
  have r37 : (0 : Int) ≤ ρ 37 ∧ ρ 37 ≤ 3 := r37
  have r38 : ((-2147483648) : Int) ≤ ρ 38 ∧ ρ 38 ≤ 2147483647 := r38
  have r39 : (0 : Int) ≤ ρ 39 ∧ ρ 39 ≤ 2000 := r39
  obtain ⟨f0, f1, f2, f3, f4, f5, f6, f7, f8, f9, f10, -⟩ := hf
  have f0 : (0 : Int) ≤ ρ 39 + -ρ 24 := f0
  have f1 : (0 : Int) ≤ ρ 39 + -ρ 4 := f1
  have f2 : (0 : Int) ≤ -ρ 34 + ρ 24 + (-1) := f2
  have f3 : (0 : Int) ≤ -ρ 35 + ρ 24 + (-1) := f3
  have f4 : (0 : Int) ≤ -ρ 36 + ρ 24 + (-1) := f4
  have f5 : (0 : Int) ≤ ρ 32 + -ρ 12 := f5
  have f6 : (0 : Int) ≤ -ρ 24 + ρ 4 := f6
  have f7 : (0 : Int) ≤ -ρ 37 + ρ 4 := f7
  have f8 : (0 : Int) ≤ -ρ 18 + ρ 4 := f8
  have f9 : (0 : Int) ≤ -ρ 20 + ρ 4 := f9
  have f10 : (0 : Int) ≤ 3 * ρ 26 + -ρ 25 + 4 := f10
  obtain ⟨m0, m1, m2, m3, m4, m5, m6, m7, m8, m9, m10, m11, m12, m13, m14, m15, m16, m17, m18, m19, m20, m21, m22, m23, m24, m25, m26, m27, m28, m29, m30, m31, m32, m33, m34, m35, m36, m37, m38, m39, m40, m41, m42, m43, m44, m45, m46, m47, m48, m49, m50, m51, -⟩ := hm
  have m0 : γ 0 1 0 10 = ρ 0 := m0
  have m1 : γ 0 40 0 (ρ 0) = ρ 1 := m1
  have m2 : γ 0 9 (ρ 1) 2 = ρ 2 := m2
  have m3 : γ 0 2 0 6 = ρ 3 := m3
  have m4 : γ 0 2 0 3 = ρ 4 := m4
  have m5 : γ 0 2 0 7 = ρ 5 := m5
  have m6 : γ 0 1 0 7 = ρ 6 := m6
  have m7 : γ 0 2 0 4 = ρ 7 := m7
  have m8 : γ 0 2 0 5 = ρ 8 := m8
  have m9 : γ 0 2 0 9 = ρ 9 := m9
  have m10 : γ 0 2 0 13 = ρ 10 := m10
  have m11 : γ 0 2 0 16 = ρ 11 := m11
  have m12 : γ 0 3 0 1 = ρ 12 := m12
  have m13 : γ 0 9 (ρ 1) 3 = ρ 13 := m13
  have m14 : γ 0 10 (9 * ρ 1) 4 = ρ 14 := m14
  have m15 : γ 0 10 (9 * ρ 1) 5 = ρ 15 := m15
  have m16 : γ 0 10 (9 * ρ 1) 7 = ρ 16 := m16
  have m17 : γ 0 10 (9 * ρ 1) 8 = ρ 17 := m17
  have m18 : γ 0 10 (9 * ρ 1) 9 = ρ 18 := m18
  have m19 : γ 0 10 (9 * ρ 1) 12 = ρ 19 := m19
  have m20 : γ 0 10 (9 * ρ 1) 13 = ρ 20 := m20
  have m21 : γ 0 10 (9 * ρ 1) 14 = ρ 21 := m21
  have m22 : γ 0 10 (9 * ρ 1) 15 = ρ 22 := m22
  have m23 : γ 0 0 0 7 = ρ 23 := m23
  have m24 : γ 2 2 0 5 = 0 := m24
  have m25 : γ 2 2 0 6 = 0 := m25
  have m26 : γ 2 2 0 7 = 1 := m26
  have m27 : γ 2 2 0 13 = 0 := m27
  have m28 : γ 2 2 0 16 = 0 := m28
  have m29 : γ 3 9 (ρ 1) 2 = 0 := m29
  have m30 : γ 3 2 0 6 = ρ 24 := m30
  have m31 : γ 3 10 (9 * ρ 1) 12 = ρ 25 := m31
  have m32 : γ 3 10 (9 * ρ 1) 14 = ρ 26 := m32
  have m33 : γ 3 10 (9 * ρ 1) 8 = ρ 27 := m33
  have m34 : γ 3 1 0 7 = ρ 6 := m34
  have m35 : γ 3 2 0 4 = ρ 7 := m35
  have m36 : γ 3 2 0 5 = ρ 28 := m36
  have m37 : γ 3 2 0 9 = ρ 29 := m37
  have m38 : γ 3 2 0 13 = ρ 30 := m38
  have m39 : γ 3 2 0 16 = ρ 31 := m39
  have m40 : γ 3 3 0 1 = ρ 32 := m40
  have m41 : γ 3 9 (ρ 1) 3 = 0 := m41
  have m42 : γ 3 10 (9 * ρ 1) 4 = ρ 33 := m42
  have m43 : γ 3 10 (9 * ρ 1) 5 = ρ 34 := m43
  have m44 : γ 3 10 (9 * ρ 1) 7 = ρ 35 := m44
  have m45 : γ 3 10 (9 * ρ 1) 9 = ρ 36 := m45
  have m46 : γ 3 10 (9 * ρ 1) 13 = ρ 37 := m46
  have m47 : γ 3 10 (9 * ρ 1) 15 = ρ 38 := m47
  have m48 : γ 4 2 0 4 = ρ 7 := m48
  have m49 : γ 5 2 0 6 = ρ 39 := m49
  have m50 : γ 5 2 0 4 = ρ 7 := m50
  have m51 : γ 6 2 0 3 = 0 := m51
  obtain ⟨⟨⟨⟨⟨⟨-, c1⟩, c2⟩, c3⟩, c4⟩, c5⟩, c6⟩ := hc
  have c1 : ∀ (G : Nat) (k j : Int), ¬ rMdP m0_ G j → γ 1 G k j = γ 0 G k j := c1
  have c2 : ∀ (G : Nat) (k j : Int), ¬ rMdP m74_ G j → γ 2 G k j = γ 1 G k j := c2
  have c3 : ∀ (G : Nat) (k j : Int), ¬ rMdP m100_ G j → γ 3 G k j = γ 2 G k j := c3
  have c4 : ∀ (G : Nat) (k j : Int), ¬ rMdP m72_ G j → γ 4 G k j = γ 3 G k j := c4
  have c5 : ∀ (G : Nat) (k j : Int), ¬ rMdP m101_ G j → γ 5 G k j = γ 4 G k j := c5
  have c6 : ∀ (G : Nat) (k j : Int), ¬ rMdP m75_ G j → γ 6 G k j = γ 5 G k j := c6
  obtain ⟨l0, l1, l2, l3, l4, l5, -⟩ := hl
  have l0 : sn131 [ρ 0, ρ 1] (γ 0) 0 (ρ 1) (γ 1) := hS131 _ _ _ _ _ l0
  have l1 : sn111 [1, ρ 8, ρ 3, ρ 5, ρ 10, ρ 11] (γ 1) 0 0 (γ 2) := hS111 _ _ _ _ _ l1
  have l2 : sn146 [ρ 0, ρ 1, ρ 2, 0, ρ 4, ρ 19, ρ 21, ρ 17, 1, ρ 6, ρ 7, 0, ρ 9, 0, 0, ρ 12, ρ 13, ρ 14, ρ 15, ρ 16, ρ 18, ρ 20, ρ 22] (γ 2) 0 1 (γ 3) := hS146 _ _ _ _ _ l2
  have l3 : sn147 [9 * ρ 1, ρ 7, ρ 34] (γ 3) 0 1 (γ 4) := hS147 _ _ _ _ _ l3
  have l4 : sn149 [ρ 24, ρ 4, ρ 7] (γ 4) 0 1 (γ 5) := hS149 _ _ _ _ _ l4
  have l5 : sn112 [ρ 4] (γ 5) 0 0 (γ 6) := hS112 _ _ _ _ _ l5
  show sr221 [ρ 0, ρ 1, ρ 2, ρ 3, ρ 4, ρ 5, ρ 6, ρ 7, ρ 8, ρ 9, ρ 10, ρ 11, ρ 12, ρ 13, ρ 14, ρ 15, ρ 16, ρ 17, ρ 18, ρ 19, ρ 20, ρ 21, ρ 22] (γ 0) 0 (-1) (γ 6)
  have h7 : γ 0 0 0 7 ≠ 0 := by rw [m23]; omega
  have e1 : γ 1 = γ 0 := congrArg (fun r : zR => r.2.2) l0
  have e2 : γ 2 = qUc 1 (γ 1) := congrArg (fun r : zR => r.2.2) l1
  have e3 : γ 3 = (fn146 [] (γ 2)).2.2 := congrArg (fun r : zR => r.2.2) l2
  have hb : hF1 (γ 0) = rUp (γ 3) 2 0 3 0 := by
    unfold hF1
    rw [if_pos h7, ← e1, ← e2, ← e3]
  show eqC (hF1 (γ 0)) (γ 6)
  have k1 : eqC (rUp (γ 3) 2 0 3 0) (γ 6) := by
    rw [f112 l5]
    exact eqC_3 (eqC_tr (eqC_k (ms := m72_) (by decide +kernel) c4) (eqC_k (ms := m101_) (by decide +kernel) c5))
  rw [hb]
  exact eqC_tr k1 eqC_rf
theorem wn221_4 {S : Nat → zSpc} (hS111 : ∀ x g o v gz, S 111 x g o v gz → sn111 x g o v gz) (hS112 : ∀ x g o v gz, S 112 x g o v gz → sn112 x g o v gz) (hS131 : ∀ x g o v gz, S 131 x g o v gz → sn131 x g o v gz) (hS146 : ∀ x g o v gz, S 146 x g o v gz → sn146 x g o v gz) (hS147 : ∀ x g o v gz, S 147 x g o v gz → sn147 x g o v gz) (hS149 : ∀ x g o v gz, S 149 x g o v gz → sn149 x g o v gz) {a : List Int} {g : rHp} : ∀ (ρ : Nat → Int) (γ : Nat → rHp), zO 23 S a g q221_4 ρ γ → zGl (fun i vs g1 => jr221 a g i vs g1) (sr221 a g) q221_4 ρ γ := by
  intro ρ γ h
  obtain ⟨ha, hg, hr, hf, hm, hc, hl⟩ := h
  have ha : a = [ρ 0, ρ 1, ρ 2, ρ 3, ρ 4, ρ 5, ρ 6, ρ 7, ρ 8, ρ 9, ρ 10, ρ 11, ρ 12, ρ 13, ρ 14, ρ 15, ρ 16, ρ 17, ρ 18, ρ 19, ρ 20, ρ 21, ρ 22] := ha
  subst ha
  subst hg
  obtain ⟨r0, r1, r2, r3, r4, r5, r6, r7, r8, r9, r10, r11, r12, r13, r14, r15, r16, r17, r18, r19, r20, r21, r22, r23, r24, r25, r26, r27, r28, r29, r30, r31, r32, r33, r34, r35, r36, r37, r38, r39, r40, r41, -⟩ := hr
  have r0 : (0 : Int) ≤ ρ 0 ∧ ρ 0 ≤ 60 := r0
  have r1 : (0 : Int) ≤ ρ 1 ∧ ρ 1 ≤ 60 := r1
  have r2 : (0 : Int) ≤ ρ 2 ∧ ρ 2 ≤ 8 := r2
  have r3 : (0 : Int) ≤ ρ 3 ∧ ρ 3 ≤ 2001 := r3
  have r4 : (2 : Int) ≤ ρ 4 ∧ ρ 4 ≤ 2000 := r4
  have r5 : (0 : Int) ≤ ρ 5 ∧ ρ 5 ≤ 2 := r5
  have r6 : (0 : Int) ≤ ρ 6 ∧ ρ 6 ≤ 20 := r6
  have r7 : ((-2147483648) : Int) ≤ ρ 7 ∧ ρ 7 ≤ 2147483647 := r7
  have r8 : ((-2147483648) : Int) ≤ ρ 8 ∧ ρ 8 ≤ 2147483647 := r8
  have r9 : ((-2147483648) : Int) ≤ ρ 9 ∧ ρ 9 ≤ 2147483647 := r9
  have r10 : (0 : Int) ≤ ρ 10 ∧ ρ 10 ≤ 8 := r10
  have r11 : (0 : Int) ≤ ρ 11 ∧ ρ 11 ≤ 32 := r11
  have r12 : (0 : Int) ≤ ρ 12 ∧ ρ 12 ≤ 5120 := r12
  have r13 : (0 : Int) ≤ ρ 13 ∧ ρ 13 ≤ 8 := r13
  have r14 : (0 : Int) ≤ ρ 14 ∧ ρ 14 ≤ 8 := r14
  have r15 : (0 : Int) ≤ ρ 15 ∧ ρ 15 ≤ 4 := r15
  have r16 : ((-2147483648) : Int) ≤ ρ 16 ∧ ρ 16 ≤ 2147483647 := r16
  have r17 : ((-1) : Int) ≤ ρ 17 ∧ ρ 17 ≤ 19 := r17
  have r18 : ((-1) : Int) ≤ ρ 18 ∧ ρ 18 ≤ 3 := r18
  have r19 : (0 : Int) ≤ ρ 19 ∧ ρ 19 ≤ 4 := r19
  have r20 : (0 : Int) ≤ ρ 20 ∧ ρ 20 ≤ 3 := r20
  have r21 : ((-1) : Int) ≤ ρ 21 ∧ ρ 21 ≤ 7 := r21
  have r22 : ((-2147483648) : Int) ≤ ρ 22 ∧ ρ 22 ≤ 2147483647 := r22
  have r23 : (1 : Int) ≤ ρ 23 ∧ ρ 23 ≤ 1 := r23
  have r24 : (3 : Int) ≤ ρ 24 ∧ ρ 24 ≤ 2000 := r24
  have r25 : (0 : Int) ≤ ρ 25 ∧ ρ 25 ≤ 4 := r25
  have r26 : ((-1) : Int) ≤ ρ 26 ∧ ρ 26 ≤ 7 := r26
  have r27 : (0 : Int) ≤ ρ 27 ∧ ρ 27 ≤ 19 := r27
  have r28 : (1 : Int) ≤ ρ 28 ∧ ρ 28 ≤ 20 := r28
  have r29 : ((-2147483648) : Int) ≤ ρ 29 ∧ ρ 29 ≤ 2147483647 := r29
  have r30 : ((-2147483648) : Int) ≤ ρ 30 ∧ ρ 30 ≤ 2147483647 := r30
  have r31 : (0 : Int) ≤ ρ 31 ∧ ρ 31 ≤ 8 := r31
  have r32 : (0 : Int) ≤ ρ 32 ∧ ρ 32 ≤ 32 := r32
  have r33 : (0 : Int) ≤ ρ 33 ∧ ρ 33 ≤ 5120 := r33
  have r34 : (0 : Int) ≤ ρ 34 ∧ ρ 34 ≤ 0 := r34
  have r35 : (1 : Int) ≤ ρ 35 ∧ ρ 35 ≤ 4 := r35
  have r36 : (0 : Int) ≤ ρ 36 ∧ ρ 36 ≤ 1999 := r36
  have r37 : ((-1) : Int) ≤ ρ 37 ∧ ρ 37 ≤ 3 := r37
  have r38 : (0 : Int) ≤ ρ 38 ∧ ρ 38 ≤ 3 := r38
  have r39 : ((-2147483648) : Int) ≤ ρ 39 ∧ ρ 39 ≤ 2147483647 := r39
  have r40 : ((-2147483648) : Int) ≤ ρ 40 ∧ ρ 40 ≤ 2147483647 := r40
  have r41 : ((-2147483648) : Int) ≤ ρ 41 ∧ ρ 41 ≤ 2147483647 := r41
  obtain ⟨f0, f1, f2, f3, f4, f5, f6, f7, f8, f9, f10, f11, -⟩ := hf
  have f0 : (0 : Int) ≤ -ρ 35 + ρ 24 + (-1) := f0
  have f1 : (0 : Int) ≤ -ρ 36 + ρ 24 + (-1) := f1
  have f2 : (0 : Int) ≤ -ρ 37 + ρ 24 + (-1) := f2
  have f3 : (0 : Int) ≤ ρ 28 + -ρ 27 + (-1) := f3
  have f4 : (0 : Int) ≤ ρ 28 + -ρ 6 := f4
  have f5 : (0 : Int) ≤ ρ 33 + -ρ 12 := f5
  have f6 : (0 : Int) ≤ -ρ 24 + ρ 4 := f6
  have f7 : (0 : Int) ≤ -ρ 38 + ρ 4 := f7
  have f8 : (0 : Int) ≤ -ρ 18 + ρ 4 := f8
  have f9 : (0 : Int) ≤ -ρ 20 + ρ 4 := f9
  have f10 : (0 : Int) ≤ -ρ 27 + ρ 6 := f10
  have f11 : (0 : Int) ≤ 3 * ρ 26 + -ρ 25 + 4 := f11
  obtain ⟨m0, m1, m2, m3, m4, m5, m6, m7, m8, m9, m10, m11, m12, m13, m14, m15, m16, m17, m18, m19, m20, m21, m22, m23, m24, m25, m26, m27, m28, m29, m30, m31, m32, m33, m34, m35, m36, m37, m38, m39, m40, m41, m42, m43, m44, m45, m46, m47, m48, m49, -⟩ := hm
  have m0 : γ 0 1 0 10 = ρ 0 := m0
  have m1 : γ 0 40 0 (ρ 0) = ρ 1 := m1
  have m2 : γ 0 9 (ρ 1) 2 = ρ 2 := m2
  have m3 : γ 0 2 0 6 = ρ 3 := m3
  have m4 : γ 0 2 0 3 = ρ 4 := m4
  have m5 : γ 0 2 0 7 = ρ 5 := m5
  have m6 : γ 0 1 0 7 = ρ 6 := m6
  have m7 : γ 0 2 0 4 = ρ 7 := m7
  have m8 : γ 0 2 0 5 = ρ 8 := m8
  have m9 : γ 0 2 0 9 = ρ 9 := m9
  have m10 : γ 0 2 0 13 = ρ 10 := m10
  have m11 : γ 0 2 0 16 = ρ 11 := m11
  have m12 : γ 0 3 0 1 = ρ 12 := m12
  have m13 : γ 0 9 (ρ 1) 3 = ρ 13 := m13
  have m14 : γ 0 10 (9 * ρ 1) 4 = ρ 14 := m14
  have m15 : γ 0 10 (9 * ρ 1) 5 = ρ 15 := m15
  have m16 : γ 0 10 (9 * ρ 1) 7 = ρ 16 := m16
  have m17 : γ 0 10 (9 * ρ 1) 8 = ρ 17 := m17
  have m18 : γ 0 10 (9 * ρ 1) 9 = ρ 18 := m18
  have m19 : γ 0 10 (9 * ρ 1) 12 = ρ 19 := m19
  have m20 : γ 0 10 (9 * ρ 1) 13 = ρ 20 := m20
  have m21 : γ 0 10 (9 * ρ 1) 14 = ρ 21 := m21
  have m22 : γ 0 10 (9 * ρ 1) 15 = ρ 22 := m22
  have m23 : γ 0 0 0 7 = ρ 23 := m23
  have m24 : γ 2 2 0 5 = 0 := m24
  have m25 : γ 2 2 0 6 = 0 := m25
  have m26 : γ 2 2 0 7 = 1 := m26
  have m27 : γ 2 2 0 13 = 0 := m27
  have m28 : γ 2 2 0 16 = 0 := m28
  have m29 : γ 3 9 (ρ 1) 2 = 0 := m29
  have m30 : γ 3 2 0 6 = ρ 24 := m30
  have m31 : γ 3 10 (9 * ρ 1) 12 = ρ 25 := m31
  have m32 : γ 3 10 (9 * ρ 1) 14 = ρ 26 := m32
  have m33 : γ 3 10 (9 * ρ 1) 8 = ρ 27 := m33
  have m34 : γ 3 1 0 7 = ρ 28 := m34
  have m35 : γ 3 2 0 4 = ρ 7 := m35
  have m36 : γ 3 2 0 5 = ρ 29 := m36
  have m37 : γ 3 2 0 9 = ρ 30 := m37
  have m38 : γ 3 2 0 13 = ρ 31 := m38
  have m39 : γ 3 2 0 16 = ρ 32 := m39
  have m40 : γ 3 3 0 1 = ρ 33 := m40
  have m41 : γ 3 9 (ρ 1) 3 = 0 := m41
  have m42 : γ 3 10 (9 * ρ 1) 4 = ρ 34 := m42
  have m43 : γ 3 10 (9 * ρ 1) 5 = ρ 35 := m43
  have m44 : γ 3 10 (9 * ρ 1) 7 = ρ 36 := m44
  have m45 : γ 3 10 (9 * ρ 1) 9 = ρ 37 := m45
  have m46 : γ 3 10 (9 * ρ 1) 13 = ρ 38 := m46
  have m47 : γ 3 10 (9 * ρ 1) 15 = ρ 39 := m47
  have m48 : γ 4 2 0 4 = ρ 40 := m48
  have m49 : γ 5 2 0 3 = 0 := m49
  obtain ⟨⟨⟨⟨⟨-, c1⟩, c2⟩, c3⟩, c4⟩, c5⟩ := hc
  have c1 : ∀ (G : Nat) (k j : Int), ¬ rMdP m0_ G j → γ 1 G k j = γ 0 G k j := c1
  have c2 : ∀ (G : Nat) (k j : Int), ¬ rMdP m74_ G j → γ 2 G k j = γ 1 G k j := c2
  have c3 : ∀ (G : Nat) (k j : Int), ¬ rMdP m100_ G j → γ 3 G k j = γ 2 G k j := c3
  have c4 : ∀ (G : Nat) (k j : Int), ¬ rMdP m72_ G j → γ 4 G k j = γ 3 G k j := c4
  have c5 : ∀ (G : Nat) (k j : Int), ¬ rMdP m75_ G j → γ 5 G k j = γ 4 G k j := c5
  obtain ⟨l0, l1, l2, l3, l4, l5, -⟩ := hl
  have l0 : sn131 [ρ 0, ρ 1] (γ 0) 0 (ρ 1) (γ 1) := hS131 _ _ _ _ _ l0
  have l1 : sn111 [1, ρ 8, ρ 3, ρ 5, ρ 10, ρ 11] (γ 1) 0 0 (γ 2) := hS111 _ _ _ _ _ l1
  have l2 : sn146 [ρ 0, ρ 1, ρ 2, 0, ρ 4, ρ 19, ρ 21, ρ 17, 1, ρ 6, ρ 7, 0, ρ 9, 0, 0, ρ 12, ρ 13, ρ 14, ρ 15, ρ 16, ρ 18, ρ 20, ρ 22] (γ 2) 0 1 (γ 3) := hS146 _ _ _ _ _ l2
  have l3 : sn147 [9 * ρ 1, ρ 7, ρ 35] (γ 3) 0 0 (γ 4) := hS147 _ _ _ _ _ l3
  have l4 : sn112 [ρ 4] (γ 4) 0 0 (γ 5) := hS112 _ _ _ _ _ l4
  have l5 : zOpP (.isub) (γ 0) (γ 1) [(-2), ρ 40] (ρ 41) := l5
  show sr221 [ρ 0, ρ 1, ρ 2, ρ 3, ρ 4, ρ 5, ρ 6, ρ 7, ρ 8, ρ 9, ρ 10, ρ 11, ρ 12, ρ 13, ρ 14, ρ 15, ρ 16, ρ 17, ρ 18, ρ 19, ρ 20, ρ 21, ρ 22] (γ 0) 0 (ρ 41) (γ 5)
  have h7 : γ 0 0 0 7 ≠ 0 := by rw [m23]; omega
  have e1 : γ 1 = γ 0 := congrArg (fun r : zR => r.2.2) l0
  have e2 : γ 2 = qUc 1 (γ 1) := congrArg (fun r : zR => r.2.2) l1
  have e3 : γ 3 = (fn146 [] (γ 2)).2.2 := congrArg (fun r : zR => r.2.2) l2
  have hb : hF1 (γ 0) = rUp (γ 3) 2 0 3 0 := by
    unfold hF1
    rw [if_pos h7, ← e1, ← e2, ← e3]
  show eqC (hF1 (γ 0)) (γ 5)
  have k1 : eqC (rUp (γ 3) 2 0 3 0) (γ 5) := by
    rw [f112 l4]
    exact eqC_3 (eqC_k (ms := m72_) (by decide +kernel) c4)
  rw [hb]
  exact eqC_tr k1 eqC_rf
theorem wn221_5 {S : Nat → zSpc} (hS111 : ∀ x g o v gz, S 111 x g o v gz → sn111 x g o v gz) (hS112 : ∀ x g o v gz, S 112 x g o v gz → sn112 x g o v gz) (hS131 : ∀ x g o v gz, S 131 x g o v gz → sn131 x g o v gz) (hS146 : ∀ x g o v gz, S 146 x g o v gz → sn146 x g o v gz) (hS147 : ∀ x g o v gz, S 147 x g o v gz → sn147 x g o v gz) (hS149 : ∀ x g o v gz, S 149 x g o v gz → sn149 x g o v gz) {a : List Int} {g : rHp} : ∀ (ρ : Nat → Int) (γ : Nat → rHp), zO 23 S a g q221_5 ρ γ → zGl (fun i vs g1 => jr221 a g i vs g1) (sr221 a g) q221_5 ρ γ := by
  intro ρ γ h
  obtain ⟨ha, hg, hr, hf, hm, hc, hl⟩ := h
  have ha : a = [ρ 0, ρ 1, ρ 2, ρ 3, ρ 4, ρ 5, ρ 6, ρ 7, ρ 8, ρ 9, ρ 10, ρ 11, ρ 12, ρ 13, ρ 14, ρ 15, ρ 16, ρ 17, ρ 18, ρ 19, ρ 20, ρ 21, ρ 22] := ha
  subst ha
  subst hg
  obtain ⟨r0, r1, r2, r3, r4, r5, r6, r7, r8, r9, r10, r11, r12, r13, r14, r15, r16, r17, r18, r19, r20, r21, r22, r23, r24, r25, r26, r27, r28, r29, r30, r31, r32, r33, r34, r35, r36, r37, r38, r39, r40, r41, -⟩ := hr
  have r0 : (0 : Int) ≤ ρ 0 ∧ ρ 0 ≤ 60 := r0
  have r1 : (0 : Int) ≤ ρ 1 ∧ ρ 1 ≤ 60 := r1
  have r2 : (0 : Int) ≤ ρ 2 ∧ ρ 2 ≤ 8 := r2
  have r3 : (0 : Int) ≤ ρ 3 ∧ ρ 3 ≤ 2001 := r3
  have r4 : (2 : Int) ≤ ρ 4 ∧ ρ 4 ≤ 2000 := r4
  have r5 : (0 : Int) ≤ ρ 5 ∧ ρ 5 ≤ 2 := r5
  have r6 : (0 : Int) ≤ ρ 6 ∧ ρ 6 ≤ 20 := r6
  have r7 : ((-2147483648) : Int) ≤ ρ 7 ∧ ρ 7 ≤ 2147483647 := r7
  have r8 : ((-2147483648) : Int) ≤ ρ 8 ∧ ρ 8 ≤ 2147483647 := r8
  have r9 : ((-2147483648) : Int) ≤ ρ 9 ∧ ρ 9 ≤ 2147483647 := r9
  have r10 : (0 : Int) ≤ ρ 10 ∧ ρ 10 ≤ 8 := r10
  have r11 : (0 : Int) ≤ ρ 11 ∧ ρ 11 ≤ 32 := r11
  have r12 : (0 : Int) ≤ ρ 12 ∧ ρ 12 ≤ 5120 := r12
  have r13 : (0 : Int) ≤ ρ 13 ∧ ρ 13 ≤ 8 := r13
  have r14 : (0 : Int) ≤ ρ 14 ∧ ρ 14 ≤ 8 := r14
  have r15 : (0 : Int) ≤ ρ 15 ∧ ρ 15 ≤ 4 := r15
  have r16 : ((-2147483648) : Int) ≤ ρ 16 ∧ ρ 16 ≤ 2147483647 := r16
  have r17 : ((-1) : Int) ≤ ρ 17 ∧ ρ 17 ≤ 19 := r17
  have r18 : ((-1) : Int) ≤ ρ 18 ∧ ρ 18 ≤ 3 := r18
  have r19 : (0 : Int) ≤ ρ 19 ∧ ρ 19 ≤ 4 := r19
  have r20 : (0 : Int) ≤ ρ 20 ∧ ρ 20 ≤ 3 := r20
  have r21 : ((-1) : Int) ≤ ρ 21 ∧ ρ 21 ≤ 7 := r21
  have r22 : ((-2147483648) : Int) ≤ ρ 22 ∧ ρ 22 ≤ 2147483647 := r22
  have r23 : (1 : Int) ≤ ρ 23 ∧ ρ 23 ≤ 1 := r23
  have r24 : (3 : Int) ≤ ρ 24 ∧ ρ 24 ≤ 2000 := r24
  have r25 : (0 : Int) ≤ ρ 25 ∧ ρ 25 ≤ 4 := r25
  have r26 : ((-1) : Int) ≤ ρ 26 ∧ ρ 26 ≤ 7 := r26
  have r27 : (0 : Int) ≤ ρ 27 ∧ ρ 27 ≤ 19 := r27
  have r28 : (1 : Int) ≤ ρ 28 ∧ ρ 28 ≤ 20 := r28
  have r29 : ((-2147483648) : Int) ≤ ρ 29 ∧ ρ 29 ≤ 2147483647 := r29
  have r30 : ((-2147483648) : Int) ≤ ρ 30 ∧ ρ 30 ≤ 2147483647 := r30
  have r31 : (0 : Int) ≤ ρ 31 ∧ ρ 31 ≤ 8 := r31
  have r32 : (0 : Int) ≤ ρ 32 ∧ ρ 32 ≤ 32 := r32
  have r33 : (0 : Int) ≤ ρ 33 ∧ ρ 33 ≤ 5120 := r33
  have r34 : (0 : Int) ≤ ρ 34 ∧ ρ 34 ≤ 0 := r34
  have r35 : (1 : Int) ≤ ρ 35 ∧ ρ 35 ≤ 4 := r35
  have r36 : (0 : Int) ≤ ρ 36 ∧ ρ 36 ≤ 1999 := r36
  have r37 : ((-1) : Int) ≤ ρ 37 ∧ ρ 37 ≤ 3 := r37
  have r38 : (0 : Int) ≤ ρ 38 ∧ ρ 38 ≤ 3 := r38
  have r39 : ((-2147483648) : Int) ≤ ρ 39 ∧ ρ 39 ≤ 2147483647 := r39
  have r40 : (0 : Int) ≤ ρ 40 ∧ ρ 40 ≤ 2000 := r40
  have r41 : (0 : Int) ≤ ρ 41 ∧ ρ 41 ≤ 2000 := r41
  obtain ⟨f0, f1, f2, f3, f4, f5, f6, f7, f8, f9, f10, f11, f12, f13, f14, f15, f16, -⟩ := hf
  have f0 : (0 : Int) ≤ -ρ 41 + ρ 40 := f0
  have f1 : (0 : Int) ≤ ρ 40 + -ρ 24 := f1
  have f2 : (0 : Int) ≤ ρ 41 + -ρ 40 := f2
  have f3 : (0 : Int) ≤ -ρ 40 + ρ 4 + (-1) := f3
  have f4 : (0 : Int) ≤ -ρ 24 + ρ 4 + (-1) := f4
  have f5 : (0 : Int) ≤ -ρ 35 + ρ 24 + (-1) := f5
  have f6 : (0 : Int) ≤ -ρ 36 + ρ 24 + (-1) := f6
  have f7 : (0 : Int) ≤ -ρ 37 + ρ 24 + (-1) := f7
  have f8 : (0 : Int) ≤ ρ 28 + -ρ 27 + (-1) := f8
  have f9 : (0 : Int) ≤ ρ 28 + -ρ 6 := f9
  have f10 : (0 : Int) ≤ ρ 33 + -ρ 12 := f10
  have f11 : (0 : Int) ≤ -ρ 24 + ρ 4 := f11
  have f12 : (0 : Int) ≤ -ρ 38 + ρ 4 := f12
  have f13 : (0 : Int) ≤ -ρ 18 + ρ 4 := f13
  have f14 : (0 : Int) ≤ -ρ 20 + ρ 4 := f14
  have f15 : (0 : Int) ≤ -ρ 27 + ρ 6 := f15
  have f16 : (0 : Int) ≤ 3 * ρ 26 + -ρ 25 + 4 := f16
  obtain ⟨m0, m1, m2, m3, m4, m5, m6, m7, m8, m9, m10, m11, m12, m13, m14, m15, m16, m17, m18, m19, m20, m21, m22, m23, m24, m25, m26, m27, m28, m29, m30, m31, m32, m33, m34, m35, m36, m37, m38, m39, m40, m41, m42, m43, m44, m45, m46, m47, m48, m49, m50, m51, -⟩ := hm
  have m0 : γ 0 1 0 10 = ρ 0 := m0
  have m1 : γ 0 40 0 (ρ 0) = ρ 1 := m1
  have m2 : γ 0 9 (ρ 1) 2 = ρ 2 := m2
  have m3 : γ 0 2 0 6 = ρ 3 := m3
  have m4 : γ 0 2 0 3 = ρ 4 := m4
  have m5 : γ 0 2 0 7 = ρ 5 := m5
  have m6 : γ 0 1 0 7 = ρ 6 := m6
  have m7 : γ 0 2 0 4 = ρ 7 := m7
  have m8 : γ 0 2 0 5 = ρ 8 := m8
  have m9 : γ 0 2 0 9 = ρ 9 := m9
  have m10 : γ 0 2 0 13 = ρ 10 := m10
  have m11 : γ 0 2 0 16 = ρ 11 := m11
  have m12 : γ 0 3 0 1 = ρ 12 := m12
  have m13 : γ 0 9 (ρ 1) 3 = ρ 13 := m13
  have m14 : γ 0 10 (9 * ρ 1) 4 = ρ 14 := m14
  have m15 : γ 0 10 (9 * ρ 1) 5 = ρ 15 := m15
  have m16 : γ 0 10 (9 * ρ 1) 7 = ρ 16 := m16
  have m17 : γ 0 10 (9 * ρ 1) 8 = ρ 17 := m17
  have m18 : γ 0 10 (9 * ρ 1) 9 = ρ 18 := m18
  have m19 : γ 0 10 (9 * ρ 1) 12 = ρ 19 := m19
  have m20 : γ 0 10 (9 * ρ 1) 13 = ρ 20 := m20
  have m21 : γ 0 10 (9 * ρ 1) 14 = ρ 21 := m21
  have m22 : γ 0 10 (9 * ρ 1) 15 = ρ 22 := m22
  have m23 : γ 0 0 0 7 = ρ 23 := m23
  have m24 : γ 2 2 0 5 = 0 := m24
  have m25 : γ 2 2 0 6 = 0 := m25
  have m26 : γ 2 2 0 7 = 1 := m26
  have m27 : γ 2 2 0 13 = 0 := m27
  have m28 : γ 2 2 0 16 = 0 := m28
  have m29 : γ 3 9 (ρ 1) 2 = 0 := m29
  have m30 : γ 3 2 0 6 = ρ 24 := m30
  have m31 : γ 3 10 (9 * ρ 1) 12 = ρ 25 := m31
  have m32 : γ 3 10 (9 * ρ 1) 14 = ρ 26 := m32
  have m33 : γ 3 10 (9 * ρ 1) 8 = ρ 27 := m33
  have m34 : γ 3 1 0 7 = ρ 28 := m34
  have m35 : γ 3 2 0 4 = ρ 7 := m35
  have m36 : γ 3 2 0 5 = ρ 29 := m36
  have m37 : γ 3 2 0 9 = ρ 30 := m37
  have m38 : γ 3 2 0 13 = ρ 31 := m38
  have m39 : γ 3 2 0 16 = ρ 32 := m39
  have m40 : γ 3 3 0 1 = ρ 33 := m40
  have m41 : γ 3 9 (ρ 1) 3 = 0 := m41
  have m42 : γ 3 10 (9 * ρ 1) 4 = ρ 34 := m42
  have m43 : γ 3 10 (9 * ρ 1) 5 = ρ 35 := m43
  have m44 : γ 3 10 (9 * ρ 1) 7 = ρ 36 := m44
  have m45 : γ 3 10 (9 * ρ 1) 9 = ρ 37 := m45
  have m46 : γ 3 10 (9 * ρ 1) 13 = ρ 38 := m46
  have m47 : γ 3 10 (9 * ρ 1) 15 = ρ 39 := m47
  have m48 : γ 4 2 0 4 = ρ 7 := m48
  have m49 : γ 5 2 0 6 = ρ 40 := m49
  have m50 : γ 5 2 0 4 = ρ 41 := m50
  have m51 : γ 6 2 0 3 = 0 := m51
  obtain ⟨⟨⟨⟨⟨⟨-, c1⟩, c2⟩, c3⟩, c4⟩, c5⟩, c6⟩ := hc
  have c1 : ∀ (G : Nat) (k j : Int), ¬ rMdP m0_ G j → γ 1 G k j = γ 0 G k j := c1
  have c2 : ∀ (G : Nat) (k j : Int), ¬ rMdP m74_ G j → γ 2 G k j = γ 1 G k j := c2
  have c3 : ∀ (G : Nat) (k j : Int), ¬ rMdP m100_ G j → γ 3 G k j = γ 2 G k j := c3
  have c4 : ∀ (G : Nat) (k j : Int), ¬ rMdP m72_ G j → γ 4 G k j = γ 3 G k j := c4
  have c5 : ∀ (G : Nat) (k j : Int), ¬ rMdP m101_ G j → γ 5 G k j = γ 4 G k j := c5
  have c6 : ∀ (G : Nat) (k j : Int), ¬ rMdP m75_ G j → γ 6 G k j = γ 5 G k j := c6
  obtain ⟨l0, l1, l2, l3, l4, l5, -⟩ := hl
  have l0 : sn131 [ρ 0, ρ 1] (γ 0) 0 (ρ 1) (γ 1) := hS131 _ _ _ _ _ l0
  have l1 : sn111 [1, ρ 8, ρ 3, ρ 5, ρ 10, ρ 11] (γ 1) 0 0 (γ 2) := hS111 _ _ _ _ _ l1
  have l2 : sn146 [ρ 0, ρ 1, ρ 2, 0, ρ 4, ρ 19, ρ 21, ρ 17, 1, ρ 6, ρ 7, 0, ρ 9, 0, 0, ρ 12, ρ 13, ρ 14, ρ 15, ρ 16, ρ 18, ρ 20, ρ 22] (γ 2) 0 1 (γ 3) := hS146 _ _ _ _ _ l2
  have l3 : sn147 [9 * ρ 1, ρ 7, ρ 35] (γ 3) 0 1 (γ 4) := hS147 _ _ _ _ _ l3
  have l4 : sn149 [ρ 24, ρ 4, ρ 7] (γ 4) 0 0 (γ 5) := hS149 _ _ _ _ _ l4
  have l5 : sn112 [ρ 4] (γ 5) 0 0 (γ 6) := hS112 _ _ _ _ _ l5
  show sr221 [ρ 0, ρ 1, ρ 2, ρ 3, ρ 4, ρ 5, ρ 6, ρ 7, ρ 8, ρ 9, ρ 10, ρ 11, ρ 12, ρ 13, ρ 14, ρ 15, ρ 16, ρ 17, ρ 18, ρ 19, ρ 20, ρ 21, ρ 22] (γ 0) 0 (-ρ 41 + (-2)) (γ 6)
  have h7 : γ 0 0 0 7 ≠ 0 := by rw [m23]; omega
  have e1 : γ 1 = γ 0 := congrArg (fun r : zR => r.2.2) l0
  have e2 : γ 2 = qUc 1 (γ 1) := congrArg (fun r : zR => r.2.2) l1
  have e3 : γ 3 = (fn146 [] (γ 2)).2.2 := congrArg (fun r : zR => r.2.2) l2
  have hb : hF1 (γ 0) = rUp (γ 3) 2 0 3 0 := by
    unfold hF1
    rw [if_pos h7, ← e1, ← e2, ← e3]
  show eqC (hF1 (γ 0)) (γ 6)
  have k1 : eqC (rUp (γ 3) 2 0 3 0) (γ 6) := by
    rw [f112 l5]
    exact eqC_3 (eqC_tr (eqC_k (ms := m72_) (by decide +kernel) c4) (eqC_k (ms := m101_) (by decide +kernel) c5))
  rw [hb]
  exact eqC_tr k1 eqC_rf
theorem wn221_6 {S : Nat → zSpc} (hS111 : ∀ x g o v gz, S 111 x g o v gz → sn111 x g o v gz) (hS112 : ∀ x g o v gz, S 112 x g o v gz → sn112 x g o v gz) (hS131 : ∀ x g o v gz, S 131 x g o v gz → sn131 x g o v gz) (hS146 : ∀ x g o v gz, S 146 x g o v gz → sn146 x g o v gz) (hS147 : ∀ x g o v gz, S 147 x g o v gz → sn147 x g o v gz) (hS149 : ∀ x g o v gz, S 149 x g o v gz → sn149 x g o v gz) {a : List Int} {g : rHp} : ∀ (ρ : Nat → Int) (γ : Nat → rHp), zO 23 S a g q221_6 ρ γ → zGl (fun i vs g1 => jr221 a g i vs g1) (sr221 a g) q221_6 ρ γ := by
  intro ρ γ h
  obtain ⟨ha, hg, hr, hf, hm, hc, hl⟩ := h
  have ha : a = [ρ 0, ρ 1, ρ 2, ρ 3, ρ 4, ρ 5, ρ 6, ρ 7, ρ 8, ρ 9, ρ 10, ρ 11, ρ 12, ρ 13, ρ 14, ρ 15, ρ 16, ρ 17, ρ 18, ρ 19, ρ 20, ρ 21, ρ 22] := ha
  subst ha
  subst hg
  obtain ⟨r0, r1, r2, r3, r4, r5, r6, r7, r8, r9, r10, r11, r12, r13, r14, r15, r16, r17, r18, r19, r20, r21, r22, r23, r24, r25, r26, r27, r28, r29, r30, r31, r32, r33, r34, r35, r36, r37, r38, r39, r40, -⟩ := hr
  have r0 : (0 : Int) ≤ ρ 0 ∧ ρ 0 ≤ 60 := r0
  have r1 : (0 : Int) ≤ ρ 1 ∧ ρ 1 ≤ 60 := r1
  have r2 : (0 : Int) ≤ ρ 2 ∧ ρ 2 ≤ 8 := r2
  have r3 : (0 : Int) ≤ ρ 3 ∧ ρ 3 ≤ 2001 := r3
  have r4 : (2 : Int) ≤ ρ 4 ∧ ρ 4 ≤ 2000 := r4
  have r5 : (0 : Int) ≤ ρ 5 ∧ ρ 5 ≤ 2 := r5
  have r6 : (0 : Int) ≤ ρ 6 ∧ ρ 6 ≤ 20 := r6
  have r7 : ((-2147483648) : Int) ≤ ρ 7 ∧ ρ 7 ≤ 2147483647 := r7
  have r8 : ((-2147483648) : Int) ≤ ρ 8 ∧ ρ 8 ≤ 2147483647 := r8
  have r9 : ((-2147483648) : Int) ≤ ρ 9 ∧ ρ 9 ≤ 2147483647 := r9
  have r10 : (0 : Int) ≤ ρ 10 ∧ ρ 10 ≤ 8 := r10
  have r11 : (0 : Int) ≤ ρ 11 ∧ ρ 11 ≤ 32 := r11
  have r12 : (0 : Int) ≤ ρ 12 ∧ ρ 12 ≤ 5120 := r12
  have r13 : (0 : Int) ≤ ρ 13 ∧ ρ 13 ≤ 8 := r13
  have r14 : (0 : Int) ≤ ρ 14 ∧ ρ 14 ≤ 8 := r14
  have r15 : (0 : Int) ≤ ρ 15 ∧ ρ 15 ≤ 4 := r15
  have r16 : ((-2147483648) : Int) ≤ ρ 16 ∧ ρ 16 ≤ 2147483647 := r16
  have r17 : ((-1) : Int) ≤ ρ 17 ∧ ρ 17 ≤ 19 := r17
  have r18 : ((-1) : Int) ≤ ρ 18 ∧ ρ 18 ≤ 3 := r18
  have r19 : (0 : Int) ≤ ρ 19 ∧ ρ 19 ≤ 4 := r19
  have r20 : (0 : Int) ≤ ρ 20 ∧ ρ 20 ≤ 3 := r20
  have r21 : ((-1) : Int) ≤ ρ 21 ∧ ρ 21 ≤ 7 := r21
  have r22 : ((-2147483648) : Int) ≤ ρ 22 ∧ ρ 22 ≤ 2147483647 := r22
  have r23 : (1 : Int) ≤ ρ 23 ∧ ρ 23 ≤ 1 := r23
  have r24 : (3 : Int) ≤ ρ 24 ∧ ρ 24 ≤ 2000 := r24
  have r25 : (0 : Int) ≤ ρ 25 ∧ ρ 25 ≤ 4 := r25
  have r26 : ((-1) : Int) ≤ ρ 26 ∧ ρ 26 ≤ 7 := r26
  have r27 : (0 : Int) ≤ ρ 27 ∧ ρ 27 ≤ 19 := r27
  have r28 : (1 : Int) ≤ ρ 28 ∧ ρ 28 ≤ 20 := r28
  have r29 : ((-2147483648) : Int) ≤ ρ 29 ∧ ρ 29 ≤ 2147483647 := r29
  have r30 : ((-2147483648) : Int) ≤ ρ 30 ∧ ρ 30 ≤ 2147483647 := r30
  have r31 : (0 : Int) ≤ ρ 31 ∧ ρ 31 ≤ 8 := r31
  have r32 : (0 : Int) ≤ ρ 32 ∧ ρ 32 ≤ 32 := r32
  have r33 : (0 : Int) ≤ ρ 33 ∧ ρ 33 ≤ 5120 := r33
  have r34 : (0 : Int) ≤ ρ 34 ∧ ρ 34 ≤ 0 := r34
  have r35 : (1 : Int) ≤ ρ 35 ∧ ρ 35 ≤ 4 := r35
  have r36 : (0 : Int) ≤ ρ 36 ∧ ρ 36 ≤ 1999 := r36
  have r37 : ((-1) : Int) ≤ ρ 37 ∧ ρ 37 ≤ 3 := r37
  have r38 : (0 : Int) ≤ ρ 38 ∧ ρ 38 ≤ 3 := r38
  have r39 : ((-2147483648) : Int) ≤ ρ 39 ∧ ρ 39 ≤ 2147483647 := r39
  have r40 : (0 : Int) ≤ ρ 40 ∧ ρ 40 ≤ 2000 := r40
  obtain ⟨f0, f1, f2, f3, f4, f5, f6, f7, f8, f9, f10, f11, f12, f13, -⟩ := hf
  have f0 : (0 : Int) ≤ ρ 40 + -ρ 24 := f0
  have f1 : (0 : Int) ≤ ρ 40 + -ρ 4 := f1
  have f2 : (0 : Int) ≤ -ρ 35 + ρ 24 + (-1) := f2
  have f3 : (0 : Int) ≤ -ρ 36 + ρ 24 + (-1) := f3
  have f4 : (0 : Int) ≤ -ρ 37 + ρ 24 + (-1) := f4
  have f5 : (0 : Int) ≤ ρ 28 + -ρ 27 + (-1) := f5
  have f6 : (0 : Int) ≤ ρ 28 + -ρ 6 := f6
  have f7 : (0 : Int) ≤ ρ 33 + -ρ 12 := f7
  have f8 : (0 : Int) ≤ -ρ 24 + ρ 4 := f8
  have f9 : (0 : Int) ≤ -ρ 38 + ρ 4 := f9
  have f10 : (0 : Int) ≤ -ρ 18 + ρ 4 := f10
  have f11 : (0 : Int) ≤ -ρ 20 + ρ 4 := f11
  have f12 : (0 : Int) ≤ -ρ 27 + ρ 6 := f12
  have f13 : (0 : Int) ≤ 3 * ρ 26 + -ρ 25 + 4 := f13
  obtain ⟨m0, m1, m2, m3, m4, m5, m6, m7, m8, m9, m10, m11, m12, m13, m14, m15, m16, m17, m18, m19, m20, m21, m22, m23, m24, m25, m26, m27, m28, m29, m30, m31, m32, m33, m34, m35, m36, m37, m38, m39, m40, m41, m42, m43, m44, m45, m46, m47, m48, m49, m50, m51, -⟩ := hm
  have m0 : γ 0 1 0 10 = ρ 0 := m0
  have m1 : γ 0 40 0 (ρ 0) = ρ 1 := m1
  have m2 : γ 0 9 (ρ 1) 2 = ρ 2 := m2
  have m3 : γ 0 2 0 6 = ρ 3 := m3
  have m4 : γ 0 2 0 3 = ρ 4 := m4
  have m5 : γ 0 2 0 7 = ρ 5 := m5
  have m6 : γ 0 1 0 7 = ρ 6 := m6
  have m7 : γ 0 2 0 4 = ρ 7 := m7
  have m8 : γ 0 2 0 5 = ρ 8 := m8
  have m9 : γ 0 2 0 9 = ρ 9 := m9
  have m10 : γ 0 2 0 13 = ρ 10 := m10
  have m11 : γ 0 2 0 16 = ρ 11 := m11
  have m12 : γ 0 3 0 1 = ρ 12 := m12
  have m13 : γ 0 9 (ρ 1) 3 = ρ 13 := m13
  have m14 : γ 0 10 (9 * ρ 1) 4 = ρ 14 := m14
  have m15 : γ 0 10 (9 * ρ 1) 5 = ρ 15 := m15
  have m16 : γ 0 10 (9 * ρ 1) 7 = ρ 16 := m16
  have m17 : γ 0 10 (9 * ρ 1) 8 = ρ 17 := m17
  have m18 : γ 0 10 (9 * ρ 1) 9 = ρ 18 := m18
  have m19 : γ 0 10 (9 * ρ 1) 12 = ρ 19 := m19
  have m20 : γ 0 10 (9 * ρ 1) 13 = ρ 20 := m20
  have m21 : γ 0 10 (9 * ρ 1) 14 = ρ 21 := m21
  have m22 : γ 0 10 (9 * ρ 1) 15 = ρ 22 := m22
  have m23 : γ 0 0 0 7 = ρ 23 := m23
  have m24 : γ 2 2 0 5 = 0 := m24
  have m25 : γ 2 2 0 6 = 0 := m25
  have m26 : γ 2 2 0 7 = 1 := m26
  have m27 : γ 2 2 0 13 = 0 := m27
  have m28 : γ 2 2 0 16 = 0 := m28
  have m29 : γ 3 9 (ρ 1) 2 = 0 := m29
  have m30 : γ 3 2 0 6 = ρ 24 := m30
  have m31 : γ 3 10 (9 * ρ 1) 12 = ρ 25 := m31
  have m32 : γ 3 10 (9 * ρ 1) 14 = ρ 26 := m32
  have m33 : γ 3 10 (9 * ρ 1) 8 = ρ 27 := m33
  have m34 : γ 3 1 0 7 = ρ 28 := m34
  have m35 : γ 3 2 0 4 = ρ 7 := m35
  have m36 : γ 3 2 0 5 = ρ 29 := m36
  have m37 : γ 3 2 0 9 = ρ 30 := m37
  have m38 : γ 3 2 0 13 = ρ 31 := m38
  have m39 : γ 3 2 0 16 = ρ 32 := m39
  have m40 : γ 3 3 0 1 = ρ 33 := m40
  have m41 : γ 3 9 (ρ 1) 3 = 0 := m41
  have m42 : γ 3 10 (9 * ρ 1) 4 = ρ 34 := m42
  have m43 : γ 3 10 (9 * ρ 1) 5 = ρ 35 := m43
  have m44 : γ 3 10 (9 * ρ 1) 7 = ρ 36 := m44
  have m45 : γ 3 10 (9 * ρ 1) 9 = ρ 37 := m45
  have m46 : γ 3 10 (9 * ρ 1) 13 = ρ 38 := m46
  have m47 : γ 3 10 (9 * ρ 1) 15 = ρ 39 := m47
  have m48 : γ 4 2 0 4 = ρ 7 := m48
  have m49 : γ 5 2 0 6 = ρ 40 := m49
  have m50 : γ 5 2 0 4 = ρ 7 := m50
  have m51 : γ 6 2 0 3 = 0 := m51
  obtain ⟨⟨⟨⟨⟨⟨-, c1⟩, c2⟩, c3⟩, c4⟩, c5⟩, c6⟩ := hc
  have c1 : ∀ (G : Nat) (k j : Int), ¬ rMdP m0_ G j → γ 1 G k j = γ 0 G k j := c1
  have c2 : ∀ (G : Nat) (k j : Int), ¬ rMdP m74_ G j → γ 2 G k j = γ 1 G k j := c2
  have c3 : ∀ (G : Nat) (k j : Int), ¬ rMdP m100_ G j → γ 3 G k j = γ 2 G k j := c3
  have c4 : ∀ (G : Nat) (k j : Int), ¬ rMdP m72_ G j → γ 4 G k j = γ 3 G k j := c4
  have c5 : ∀ (G : Nat) (k j : Int), ¬ rMdP m101_ G j → γ 5 G k j = γ 4 G k j := c5
  have c6 : ∀ (G : Nat) (k j : Int), ¬ rMdP m75_ G j → γ 6 G k j = γ 5 G k j := c6
  obtain ⟨l0, l1, l2, l3, l4, l5, -⟩ := hl
  have l0 : sn131 [ρ 0, ρ 1] (γ 0) 0 (ρ 1) (γ 1) := hS131 _ _ _ _ _ l0
  have l1 : sn111 [1, ρ 8, ρ 3, ρ 5, ρ 10, ρ 11] (γ 1) 0 0 (γ 2) := hS111 _ _ _ _ _ l1
  have l2 : sn146 [ρ 0, ρ 1, ρ 2, 0, ρ 4, ρ 19, ρ 21, ρ 17, 1, ρ 6, ρ 7, 0, ρ 9, 0, 0, ρ 12, ρ 13, ρ 14, ρ 15, ρ 16, ρ 18, ρ 20, ρ 22] (γ 2) 0 1 (γ 3) := hS146 _ _ _ _ _ l2
  have l3 : sn147 [9 * ρ 1, ρ 7, ρ 35] (γ 3) 0 1 (γ 4) := hS147 _ _ _ _ _ l3
  have l4 : sn149 [ρ 24, ρ 4, ρ 7] (γ 4) 0 1 (γ 5) := hS149 _ _ _ _ _ l4
  have l5 : sn112 [ρ 4] (γ 5) 0 0 (γ 6) := hS112 _ _ _ _ _ l5
  show jr221 [ρ 0, ρ 1, ρ 2, ρ 3, ρ 4, ρ 5, ρ 6, ρ 7, ρ 8, ρ 9, ρ 10, ρ 11, ρ 12, ρ 13, ρ 14, ρ 15, ρ 16, ρ 17, ρ 18, ρ 19, ρ 20, ρ 21, ρ 22] (γ 0) 0 [ρ 0, ρ 1, ρ 2, ρ 3, ρ 4, ρ 5, ρ 6, ρ 7, ρ 8, ρ 9, ρ 10, ρ 11, ρ 12, ρ 13, ρ 14, ρ 15, ρ 16, ρ 17, ρ 18, ρ 19, ρ 20, ρ 21, ρ 22, 0, 0, ρ 40, 0, 1, ρ 28, ρ 29, ρ 30, ρ 31, ρ 32, ρ 33, 0, ρ 34, ρ 35, ρ 36, ρ 27, ρ 37, ρ 25, ρ 38, ρ 26, ρ 39] (γ 6)
  have h7 : γ 0 0 0 7 ≠ 0 := by rw [m23]; omega
  have e1 : γ 1 = γ 0 := congrArg (fun r : zR => r.2.2) l0
  have e2 : γ 2 = qUc 1 (γ 1) := congrArg (fun r : zR => r.2.2) l1
  have e3 : γ 3 = (fn146 [] (γ 2)).2.2 := congrArg (fun r : zR => r.2.2) l2
  have hb : hF1 (γ 0) = rUp (γ 3) 2 0 3 0 := by
    unfold hF1
    rw [if_pos h7, ← e1, ← e2, ← e3]
  show eqC (hF1 (γ 0)) (γ 6)
  have k1 : eqC (rUp (γ 3) 2 0 3 0) (γ 6) := by
    rw [f112 l5]
    exact eqC_3 (eqC_tr (eqC_k (ms := m72_) (by decide +kernel) c4) (eqC_k (ms := m101_) (by decide +kernel) c5))
  rw [hb]
  exact eqC_tr k1 eqC_rf
theorem wn221_7 {S : Nat → zSpc} (hS111 : ∀ x g o v gz, S 111 x g o v gz → sn111 x g o v gz) (hS112 : ∀ x g o v gz, S 112 x g o v gz → sn112 x g o v gz) (hS131 : ∀ x g o v gz, S 131 x g o v gz → sn131 x g o v gz) (hS146 : ∀ x g o v gz, S 146 x g o v gz → sn146 x g o v gz) (hS147 : ∀ x g o v gz, S 147 x g o v gz → sn147 x g o v gz) (hS149 : ∀ x g o v gz, S 149 x g o v gz → sn149 x g o v gz) {a : List Int} {g : rHp} : ∀ (ρ : Nat → Int) (γ : Nat → rHp), zO 23 S a g q221_7 ρ γ → zGl (fun i vs g1 => jr221 a g i vs g1) (sr221 a g) q221_7 ρ γ := by
  intro ρ γ h
  obtain ⟨ha, hg, hr, hf, hm, hc, hl⟩ := h
  have ha : a = [ρ 0, ρ 1, ρ 2, ρ 3, ρ 4, ρ 5, ρ 6, ρ 7, ρ 8, ρ 9, ρ 10, ρ 11, ρ 12, ρ 13, ρ 14, ρ 15, ρ 16, ρ 17, ρ 18, ρ 19, ρ 20, ρ 21, ρ 22] := ha
  subst ha
  subst hg
  obtain ⟨r0, r1, r2, r3, r4, r5, r6, r7, r8, r9, r10, r11, r12, r13, r14, r15, r16, r17, r18, r19, r20, r21, r22, r23, -⟩ := hr
  have r0 : (0 : Int) ≤ ρ 0 ∧ ρ 0 ≤ 60 := r0
  have r1 : (0 : Int) ≤ ρ 1 ∧ ρ 1 ≤ 60 := r1
  have r2 : (0 : Int) ≤ ρ 2 ∧ ρ 2 ≤ 8 := r2
  have r3 : (0 : Int) ≤ ρ 3 ∧ ρ 3 ≤ 2001 := r3
  have r4 : (0 : Int) ≤ ρ 4 ∧ ρ 4 ≤ 2000 := r4
  have r5 : (0 : Int) ≤ ρ 5 ∧ ρ 5 ≤ 2 := r5
  have r6 : (0 : Int) ≤ ρ 6 ∧ ρ 6 ≤ 20 := r6
  have r7 : ((-2147483648) : Int) ≤ ρ 7 ∧ ρ 7 ≤ 2147483647 := r7
  have r8 : ((-2147483648) : Int) ≤ ρ 8 ∧ ρ 8 ≤ 2147483647 := r8
  have r9 : ((-2147483648) : Int) ≤ ρ 9 ∧ ρ 9 ≤ 2147483647 := r9
  have r10 : (0 : Int) ≤ ρ 10 ∧ ρ 10 ≤ 8 := r10
  have r11 : (0 : Int) ≤ ρ 11 ∧ ρ 11 ≤ 32 := r11
  have r12 : (0 : Int) ≤ ρ 12 ∧ ρ 12 ≤ 5120 := r12
  have r13 : (0 : Int) ≤ ρ 13 ∧ ρ 13 ≤ 8 := r13
  have r14 : (0 : Int) ≤ ρ 14 ∧ ρ 14 ≤ 8 := r14
  have r15 : (0 : Int) ≤ ρ 15 ∧ ρ 15 ≤ 4 := r15
  have r16 : ((-2147483648) : Int) ≤ ρ 16 ∧ ρ 16 ≤ 2147483647 := r16
  have r17 : ((-1) : Int) ≤ ρ 17 ∧ ρ 17 ≤ 19 := r17
  have r18 : ((-1) : Int) ≤ ρ 18 ∧ ρ 18 ≤ 3 := r18
  have r19 : (0 : Int) ≤ ρ 19 ∧ ρ 19 ≤ 4 := r19
  have r20 : (0 : Int) ≤ ρ 20 ∧ ρ 20 ≤ 3 := r20
  have r21 : ((-1) : Int) ≤ ρ 21 ∧ ρ 21 ≤ 7 := r21
  have r22 : ((-2147483648) : Int) ≤ ρ 22 ∧ ρ 22 ≤ 2147483647 := r22
  have r23 : (0 : Int) ≤ ρ 23 ∧ ρ 23 ≤ 0 := r23
  obtain ⟨m0, m1, m2, m3, m4, m5, m6, m7, m8, m9, m10, m11, m12, m13, m14, m15, m16, m17, m18, m19, m20, m21, m22, m23, m24, -⟩ := hm
  have m0 : γ 0 1 0 10 = ρ 0 := m0
  have m1 : γ 0 40 0 (ρ 0) = ρ 1 := m1
  have m2 : γ 0 9 (ρ 1) 2 = ρ 2 := m2
  have m3 : γ 0 2 0 6 = ρ 3 := m3
  have m4 : γ 0 2 0 3 = ρ 4 := m4
  have m5 : γ 0 2 0 7 = ρ 5 := m5
  have m6 : γ 0 1 0 7 = ρ 6 := m6
  have m7 : γ 0 2 0 4 = ρ 7 := m7
  have m8 : γ 0 2 0 5 = ρ 8 := m8
  have m9 : γ 0 2 0 9 = ρ 9 := m9
  have m10 : γ 0 2 0 13 = ρ 10 := m10
  have m11 : γ 0 2 0 16 = ρ 11 := m11
  have m12 : γ 0 3 0 1 = ρ 12 := m12
  have m13 : γ 0 9 (ρ 1) 3 = ρ 13 := m13
  have m14 : γ 0 10 (9 * ρ 1) 4 = ρ 14 := m14
  have m15 : γ 0 10 (9 * ρ 1) 5 = ρ 15 := m15
  have m16 : γ 0 10 (9 * ρ 1) 7 = ρ 16 := m16
  have m17 : γ 0 10 (9 * ρ 1) 8 = ρ 17 := m17
  have m18 : γ 0 10 (9 * ρ 1) 9 = ρ 18 := m18
  have m19 : γ 0 10 (9 * ρ 1) 12 = ρ 19 := m19
  have m20 : γ 0 10 (9 * ρ 1) 13 = ρ 20 := m20
  have m21 : γ 0 10 (9 * ρ 1) 14 = ρ 21 := m21
  have m22 : γ 0 10 (9 * ρ 1) 15 = ρ 22 := m22
  have m23 : γ 0 0 0 7 = ρ 23 := m23
  have m24 : γ 1 2 0 3 = 0 := m24
  obtain ⟨-, c1⟩ := hc
  have c1 : ∀ (G : Nat) (k j : Int), ¬ rMdP m75_ G j → γ 1 G k j = γ 0 G k j := c1
  obtain ⟨l0, -⟩ := hl
  have l0 : sn112 [ρ 4] (γ 0) 0 0 (γ 1) := hS112 _ _ _ _ _ l0
  show sr221 [ρ 0, ρ 1, ρ 2, ρ 3, ρ 4, ρ 5, ρ 6, ρ 7, ρ 8, ρ 9, ρ 10, ρ 11, ρ 12, ρ 13, ρ 14, ρ 15, ρ 16, ρ 17, ρ 18, ρ 19, ρ 20, ρ 21, ρ 22] (γ 0) 5 0 (γ 1)
  have h7 : ¬ γ 0 0 0 7 ≠ 0 := by rw [m23]; omega
  have hb : hF1 (γ 0) = γ 1 := by
    unfold hF1
    rw [if_neg h7]
    exact (f112 l0).symm
  show eqC (hF1 (γ 0)) (γ 1)
  rw [hb]
  exact eqC_rf
theorem wn221a0_0 {S : Nat → zSpc} (hS111 : ∀ x g o v gz, S 111 x g o v gz → sn111 x g o v gz) (hS112 : ∀ x g o v gz, S 112 x g o v gz → sn112 x g o v gz) (hS131 : ∀ x g o v gz, S 131 x g o v gz → sn131 x g o v gz) (hS146 : ∀ x g o v gz, S 146 x g o v gz → sn146 x g o v gz) (hS147 : ∀ x g o v gz, S 147 x g o v gz → sn147 x g o v gz) (hS149 : ∀ x g o v gz, S 149 x g o v gz → sn149 x g o v gz) {a : List Int} {g : rHp} : ∀ (ρ : Nat → Int) (γ : Nat → rHp), jr221 a g 0 (zAg (zNA a221_ 0) ρ) (γ 1) → zO 23 S a g q221a0_0 ρ γ → zGl (fun i vs g1 => jr221 a g i vs g1) (sr221 a g) q221a0_0 ρ γ := by
  intro ρ γ hJ h
  obtain ⟨ha, hg, hr, hf, hm, hc, hl⟩ := h
  have ha : a = [ρ 0, ρ 1, ρ 2, ρ 3, ρ 4, ρ 5, ρ 6, ρ 7, ρ 8, ρ 9, ρ 10, ρ 11, ρ 12, ρ 13, ρ 14, ρ 15, ρ 16, ρ 17, ρ 18, ρ 19, ρ 20, ρ 21, ρ 22] := ha
  subst ha
  subst hg
  have hJ : jr221 [ρ 0, ρ 1, ρ 2, ρ 3, ρ 4, ρ 5, ρ 6, ρ 7, ρ 8, ρ 9, ρ 10, ρ 11, ρ 12, ρ 13, ρ 14, ρ 15, ρ 16, ρ 17, ρ 18, ρ 19, ρ 20, ρ 21, ρ 22] (γ 0) 0 [ρ 0, ρ 1, ρ 2, ρ 3, ρ 4, ρ 5, ρ 6, ρ 7, ρ 8, ρ 9, ρ 10, ρ 11, ρ 12, ρ 13, ρ 14, ρ 15, ρ 16, ρ 17, ρ 18, ρ 19, ρ 20, ρ 21, ρ 22, ρ 23, ρ 24, ρ 25, ρ 26, ρ 27, ρ 28, ρ 29, ρ 30, ρ 31, ρ 32, ρ 33, ρ 34, ρ 35, ρ 36, ρ 37, ρ 38, ρ 39, ρ 40, ρ 41, ρ 42, ρ 43] (γ 1) := hJ
  obtain ⟨r0, r1, r2, r3, r4, r5, r6, r7, r8, r9, r10, r11, r12, r13, r14, r15, r16, r17, r18, r19, r20, r21, r22, r23, r24, r25, r26, r27, r28, r29, r30, r31, r32, r33, r34, r35, r36, r37, r38, r39, r40, r41, r42, r43, r44, -⟩ := hr
  have r0 : (0 : Int) ≤ ρ 0 ∧ ρ 0 ≤ 60 := r0
  have r1 : (0 : Int) ≤ ρ 1 ∧ ρ 1 ≤ 60 := r1
  have r2 : (0 : Int) ≤ ρ 2 ∧ ρ 2 ≤ 8 := r2
  have r3 : (0 : Int) ≤ ρ 3 ∧ ρ 3 ≤ 2001 := r3
  have r4 : (2 : Int) ≤ ρ 4 ∧ ρ 4 ≤ 2000 := r4
  have r5 : (0 : Int) ≤ ρ 5 ∧ ρ 5 ≤ 2 := r5
  have r6 : (0 : Int) ≤ ρ 6 ∧ ρ 6 ≤ 20 := r6
  have r7 : ((-2147483648) : Int) ≤ ρ 7 ∧ ρ 7 ≤ 2147483647 := r7
  have r8 : ((-2147483648) : Int) ≤ ρ 8 ∧ ρ 8 ≤ 2147483647 := r8
  have r9 : ((-2147483648) : Int) ≤ ρ 9 ∧ ρ 9 ≤ 2147483647 := r9
  have r10 : (0 : Int) ≤ ρ 10 ∧ ρ 10 ≤ 8 := r10
  have r11 : (0 : Int) ≤ ρ 11 ∧ ρ 11 ≤ 32 := r11
  have r12 : (0 : Int) ≤ ρ 12 ∧ ρ 12 ≤ 5120 := r12
  have r13 : (0 : Int) ≤ ρ 13 ∧ ρ 13 ≤ 8 := r13
  have r14 : (0 : Int) ≤ ρ 14 ∧ ρ 14 ≤ 8 := r14
  have r15 : (0 : Int) ≤ ρ 15 ∧ ρ 15 ≤ 4 := r15
  have r16 : ((-2147483648) : Int) ≤ ρ 16 ∧ ρ 16 ≤ 2147483647 := r16
  have r17 : ((-1) : Int) ≤ ρ 17 ∧ ρ 17 ≤ 19 := r17
  have r18 : ((-1) : Int) ≤ ρ 18 ∧ ρ 18 ≤ 3 := r18
  have r19 : (0 : Int) ≤ ρ 19 ∧ ρ 19 ≤ 4 := r19
  have r20 : (0 : Int) ≤ ρ 20 ∧ ρ 20 ≤ 3 := r20
  have r21 : ((-1) : Int) ≤ ρ 21 ∧ ρ 21 ≤ 7 := r21
  have r22 : ((-2147483648) : Int) ≤ ρ 22 ∧ ρ 22 ≤ 2147483647 := r22
  have r23 : (4 : Int) ≤ ρ 23 ∧ ρ 23 ≤ 4 := r23
  have r24 : (0 : Int) ≤ ρ 24 ∧ ρ 24 ≤ 0 := r24
  have r25 : (3 : Int) ≤ ρ 25 ∧ ρ 25 ≤ 2000 := r25
  have r26 : (0 : Int) ≤ ρ 26 ∧ ρ 26 ≤ 0 := r26
  have r27 : (1 : Int) ≤ ρ 27 ∧ ρ 27 ≤ 1 := r27
  have r28 : (1 : Int) ≤ ρ 28 ∧ ρ 28 ≤ 20 := r28
  have r29 : ((-2147483648) : Int) ≤ ρ 29 ∧ ρ 29 ≤ 2147483647 := r29
  have r30 : ((-2147483648) : Int) ≤ ρ 30 ∧ ρ 30 ≤ 2147483647 := r30
  have r31 : (0 : Int) ≤ ρ 31 ∧ ρ 31 ≤ 8 := r31
  have r32 : (0 : Int) ≤ ρ 32 ∧ ρ 32 ≤ 32 := r32
  have r33 : (0 : Int) ≤ ρ 33 ∧ ρ 33 ≤ 5120 := r33
  have r34 : (0 : Int) ≤ ρ 34 ∧ ρ 34 ≤ 0 := r34
  have r35 : (0 : Int) ≤ ρ 35 ∧ ρ 35 ≤ 0 := r35
  have r36 : (1 : Int) ≤ ρ 36 ∧ ρ 36 ≤ 4 := r36
  have r37 : (0 : Int) ≤ ρ 37 ∧ ρ 37 ≤ 1999 := r37
  have r38 : (0 : Int) ≤ ρ 38 ∧ ρ 38 ≤ 19 := r38
  have r39 : ((-1) : Int) ≤ ρ 39 ∧ ρ 39 ≤ 3 := r39
  have r40 : (0 : Int) ≤ ρ 40 ∧ ρ 40 ≤ 4 := r40
  have r41 : (0 : Int) ≤ ρ 41 ∧ ρ 41 ≤ 3 := r41
  have r42 : ((-1) : Int) ≤ ρ 42 ∧ ρ 42 ≤ 7 := r42
  have r43 : ((-2147483648) : Int) ≤ ρ 43 ∧ ρ 43 ≤ 2147483647 := r43
  have r44 : ((-1) : Int) ≤ ρ 44 ∧ ρ 44 ≤ 1999 := r44
  obtain ⟨f0, f1, f2, f3, f4, f5, f6, f7, f8, f9, f10, -⟩ := hf
  have f0 : (0 : Int) ≤ -ρ 20 + ρ 4 := f0
  have f1 : (0 : Int) ≤ -ρ 18 + ρ 4 := f1
  have f2 : (0 : Int) ≤ -ρ 38 + ρ 6 := f2
  have f3 : (0 : Int) ≤ -ρ 41 + ρ 4 := f3
  have f4 : (0 : Int) ≤ -ρ 39 + ρ 4 + (-1) := f4
  have f5 : (0 : Int) ≤ -ρ 37 + ρ 4 + (-1) := f5
  have f6 : (0 : Int) ≤ -ρ 36 + ρ 4 + (-1) := f6
  have f7 : (0 : Int) ≤ ρ 33 + -ρ 12 := f7
  have f8 : (0 : Int) ≤ ρ 28 + -ρ 6 := f8
  have f9 : (0 : Int) ≤ -ρ 38 + ρ 28 + (-1) := f9
  have f10 : (0 : Int) ≤ ρ 25 + -ρ 4 := f10
  obtain ⟨m0, m1, m2, m3, m4, m5, m6, m7, m8, m9, m10, m11, m12, m13, m14, m15, m16, m17, m18, m19, m20, m21, m22, m23, m24, m25, m26, m27, m28, m29, m30, m31, m32, m33, m34, m35, m36, m37, m38, m39, m40, m41, m42, m43, -⟩ := hm
  have m0 : γ 0 1 0 10 = ρ 0 := m0
  have m1 : γ 0 40 0 (ρ 0) = ρ 1 := m1
  have m2 : γ 0 9 (ρ 1) 2 = ρ 2 := m2
  have m3 : γ 0 2 0 6 = ρ 3 := m3
  have m4 : γ 0 2 0 3 = ρ 4 := m4
  have m5 : γ 0 2 0 7 = ρ 5 := m5
  have m6 : γ 0 1 0 7 = ρ 6 := m6
  have m7 : γ 0 2 0 4 = ρ 7 := m7
  have m8 : γ 0 2 0 5 = ρ 8 := m8
  have m9 : γ 0 2 0 9 = ρ 9 := m9
  have m10 : γ 0 2 0 13 = ρ 10 := m10
  have m11 : γ 0 2 0 16 = ρ 11 := m11
  have m12 : γ 0 3 0 1 = ρ 12 := m12
  have m13 : γ 0 9 (ρ 1) 3 = ρ 13 := m13
  have m14 : γ 0 10 (9 * ρ 1) 4 = ρ 14 := m14
  have m15 : γ 0 10 (9 * ρ 1) 5 = ρ 15 := m15
  have m16 : γ 0 10 (9 * ρ 1) 7 = ρ 16 := m16
  have m17 : γ 0 10 (9 * ρ 1) 8 = ρ 17 := m17
  have m18 : γ 0 10 (9 * ρ 1) 9 = ρ 18 := m18
  have m19 : γ 0 10 (9 * ρ 1) 12 = ρ 19 := m19
  have m20 : γ 0 10 (9 * ρ 1) 13 = ρ 20 := m20
  have m21 : γ 0 10 (9 * ρ 1) 14 = ρ 21 := m21
  have m22 : γ 0 10 (9 * ρ 1) 15 = ρ 22 := m22
  have m23 : γ 1 9 (ρ 1) 2 = ρ 24 := m23
  have m24 : γ 1 2 0 6 = ρ 25 := m24
  have m25 : γ 1 2 0 3 = ρ 26 := m25
  have m26 : γ 1 2 0 7 = ρ 27 := m26
  have m27 : γ 1 1 0 7 = ρ 28 := m27
  have m28 : γ 1 2 0 4 = ρ 7 := m28
  have m29 : γ 1 2 0 5 = ρ 29 := m29
  have m30 : γ 1 2 0 9 = ρ 30 := m30
  have m31 : γ 1 2 0 13 = ρ 31 := m31
  have m32 : γ 1 2 0 16 = ρ 32 := m32
  have m33 : γ 1 3 0 1 = ρ 33 := m33
  have m34 : γ 1 9 (ρ 1) 3 = ρ 34 := m34
  have m35 : γ 1 10 (9 * ρ 1) 4 = ρ 35 := m35
  have m36 : γ 1 10 (9 * ρ 1) 5 = ρ 36 := m36
  have m37 : γ 1 10 (9 * ρ 1) 7 = ρ 37 := m37
  have m38 : γ 1 10 (9 * ρ 1) 8 = ρ 38 := m38
  have m39 : γ 1 10 (9 * ρ 1) 9 = ρ 39 := m39
  have m40 : γ 1 10 (9 * ρ 1) 12 = ρ 40 := m40
  have m41 : γ 1 10 (9 * ρ 1) 13 = ρ 41 := m41
  have m42 : γ 1 10 (9 * ρ 1) 14 = ρ 42 := m42
  have m43 : γ 1 10 (9 * ρ 1) 15 = ρ 43 := m43
  obtain ⟨⟨-, c1⟩, c2⟩ := hc
  have c1 : ∀ (G : Nat) (k j : Int), ¬ rMdP m130_ G j → γ 1 G k j = γ 0 G k j := c1
  have c2 : ∀ (G : Nat) (k j : Int), ¬ rMdP m0_ G j → γ 2 G k j = γ 1 G k j := c2
  obtain ⟨l0, -⟩ := hl
  show sr221 [ρ 0, ρ 1, ρ 2, ρ 3, ρ 4, ρ 5, ρ 6, ρ 7, ρ 8, ρ 9, ρ 10, ρ 11, ρ 12, ρ 13, ρ 14, ρ 15, ρ 16, ρ 17, ρ 18, ρ 19, ρ 20, ρ 21, ρ 22] (γ 0) 0 (ρ 44) (γ 2)
  exact eqC_tr hJ (eqC_k (ms := m0_) (by decide +kernel) c2)
theorem wn221a0_1 {S : Nat → zSpc} (hS111 : ∀ x g o v gz, S 111 x g o v gz → sn111 x g o v gz) (hS112 : ∀ x g o v gz, S 112 x g o v gz → sn112 x g o v gz) (hS131 : ∀ x g o v gz, S 131 x g o v gz → sn131 x g o v gz) (hS146 : ∀ x g o v gz, S 146 x g o v gz → sn146 x g o v gz) (hS147 : ∀ x g o v gz, S 147 x g o v gz → sn147 x g o v gz) (hS149 : ∀ x g o v gz, S 149 x g o v gz → sn149 x g o v gz) {a : List Int} {g : rHp} : ∀ (ρ : Nat → Int) (γ : Nat → rHp), jr221 a g 0 (zAg (zNA a221_ 0) ρ) (γ 1) → zO 23 S a g q221a0_1 ρ γ → zGl (fun i vs g1 => jr221 a g i vs g1) (sr221 a g) q221a0_1 ρ γ := by
  intro ρ γ hJ h
  obtain ⟨ha, hg, hr, hf, hm, hc, hl⟩ := h
  have ha : a = [ρ 0, ρ 1, ρ 2, ρ 3, ρ 4, ρ 5, ρ 6, ρ 7, ρ 8, ρ 9, ρ 10, ρ 11, ρ 12, ρ 13, ρ 14, ρ 15, ρ 16, ρ 17, ρ 18, ρ 19, ρ 20, ρ 21, ρ 22] := ha
  subst ha
  subst hg
  have hJ : jr221 [ρ 0, ρ 1, ρ 2, ρ 3, ρ 4, ρ 5, ρ 6, ρ 7, ρ 8, ρ 9, ρ 10, ρ 11, ρ 12, ρ 13, ρ 14, ρ 15, ρ 16, ρ 17, ρ 18, ρ 19, ρ 20, ρ 21, ρ 22] (γ 0) 0 [ρ 0, ρ 1, ρ 2, ρ 3, ρ 4, ρ 5, ρ 6, ρ 7, ρ 8, ρ 9, ρ 10, ρ 11, ρ 12, ρ 13, ρ 14, ρ 15, ρ 16, ρ 17, ρ 18, ρ 19, ρ 20, ρ 21, ρ 22, ρ 23, ρ 24, ρ 25, ρ 26, ρ 27, ρ 28, ρ 29, ρ 30, ρ 31, ρ 32, ρ 33, ρ 34, ρ 35, ρ 36, ρ 37, ρ 38, ρ 39, ρ 40, ρ 41, ρ 42, ρ 43] (γ 1) := hJ
  obtain ⟨r0, r1, r2, r3, r4, r5, r6, r7, r8, r9, r10, r11, r12, r13, r14, r15, r16, r17, r18, r19, r20, r21, r22, r23, r24, r25, r26, r27, r28, r29, r30, r31, r32, r33, r34, r35, r36, r37, r38, r39, r40, r41, r42, r43, r44, -⟩ := hr
  have r0 : (0 : Int) ≤ ρ 0 ∧ ρ 0 ≤ 60 := r0
  have r1 : (0 : Int) ≤ ρ 1 ∧ ρ 1 ≤ 60 := r1
  have r2 : (0 : Int) ≤ ρ 2 ∧ ρ 2 ≤ 8 := r2
  have r3 : (0 : Int) ≤ ρ 3 ∧ ρ 3 ≤ 2001 := r3
  have r4 : (2 : Int) ≤ ρ 4 ∧ ρ 4 ≤ 2000 := r4
  have r5 : (0 : Int) ≤ ρ 5 ∧ ρ 5 ≤ 2 := r5
  have r6 : (0 : Int) ≤ ρ 6 ∧ ρ 6 ≤ 20 := r6
  have r7 : ((-2147483648) : Int) ≤ ρ 7 ∧ ρ 7 ≤ 2147483647 := r7
  have r8 : ((-2147483648) : Int) ≤ ρ 8 ∧ ρ 8 ≤ 2147483647 := r8
  have r9 : ((-2147483648) : Int) ≤ ρ 9 ∧ ρ 9 ≤ 2147483647 := r9
  have r10 : (0 : Int) ≤ ρ 10 ∧ ρ 10 ≤ 8 := r10
  have r11 : (0 : Int) ≤ ρ 11 ∧ ρ 11 ≤ 32 := r11
  have r12 : (0 : Int) ≤ ρ 12 ∧ ρ 12 ≤ 5120 := r12
  have r13 : (0 : Int) ≤ ρ 13 ∧ ρ 13 ≤ 8 := r13
  have r14 : (0 : Int) ≤ ρ 14 ∧ ρ 14 ≤ 8 := r14
  have r15 : (0 : Int) ≤ ρ 15 ∧ ρ 15 ≤ 4 := r15
  have r16 : ((-2147483648) : Int) ≤ ρ 16 ∧ ρ 16 ≤ 2147483647 := r16
  have r17 : ((-1) : Int) ≤ ρ 17 ∧ ρ 17 ≤ 19 := r17
  have r18 : ((-1) : Int) ≤ ρ 18 ∧ ρ 18 ≤ 3 := r18
  have r19 : (0 : Int) ≤ ρ 19 ∧ ρ 19 ≤ 4 := r19
  have r20 : (0 : Int) ≤ ρ 20 ∧ ρ 20 ≤ 3 := r20
  have r21 : ((-1) : Int) ≤ ρ 21 ∧ ρ 21 ≤ 7 := r21
  have r22 : ((-2147483648) : Int) ≤ ρ 22 ∧ ρ 22 ≤ 2147483647 := r22
  have r23 : (0 : Int) ≤ ρ 23 ∧ ρ 23 ≤ 3 := r23
  have r24 : (0 : Int) ≤ ρ 24 ∧ ρ 24 ≤ 0 := r24
  have r25 : (3 : Int) ≤ ρ 25 ∧ ρ 25 ≤ 2000 := r25
  have r26 : (0 : Int) ≤ ρ 26 ∧ ρ 26 ≤ 0 := r26
  have r27 : (1 : Int) ≤ ρ 27 ∧ ρ 27 ≤ 1 := r27
  have r28 : (1 : Int) ≤ ρ 28 ∧ ρ 28 ≤ 20 := r28
  have r29 : ((-2147483648) : Int) ≤ ρ 29 ∧ ρ 29 ≤ 2147483647 := r29
  have r30 : ((-2147483648) : Int) ≤ ρ 30 ∧ ρ 30 ≤ 2147483647 := r30
  have r31 : (0 : Int) ≤ ρ 31 ∧ ρ 31 ≤ 8 := r31
  have r32 : (0 : Int) ≤ ρ 32 ∧ ρ 32 ≤ 32 := r32
  have r33 : (0 : Int) ≤ ρ 33 ∧ ρ 33 ≤ 5120 := r33
  have r34 : (0 : Int) ≤ ρ 34 ∧ ρ 34 ≤ 0 := r34
  have r35 : (0 : Int) ≤ ρ 35 ∧ ρ 35 ≤ 0 := r35
  have r36 : (1 : Int) ≤ ρ 36 ∧ ρ 36 ≤ 4 := r36
  have r37 : (0 : Int) ≤ ρ 37 ∧ ρ 37 ≤ 1999 := r37
  have r38 : (0 : Int) ≤ ρ 38 ∧ ρ 38 ≤ 19 := r38
  have r39 : ((-1) : Int) ≤ ρ 39 ∧ ρ 39 ≤ 3 := r39
  have r40 : (0 : Int) ≤ ρ 40 ∧ ρ 40 ≤ 4 := r40
  have r41 : (0 : Int) ≤ ρ 41 ∧ ρ 41 ≤ 3 := r41
  have r42 : ((-1) : Int) ≤ ρ 42 ∧ ρ 42 ≤ 7 := r42
  have r43 : ((-2147483648) : Int) ≤ ρ 43 ∧ ρ 43 ≤ 2147483647 := r43
  have r44 : ((-9223372036854775808) : Int) ≤ ρ 44 ∧ ρ 44 ≤ 9223372036854775807 := r44
  obtain ⟨f0, f1, f2, f3, f4, f5, f6, f7, f8, f9, f10, -⟩ := hf
  have f0 : (0 : Int) ≤ -ρ 20 + ρ 4 := f0
  have f1 : (0 : Int) ≤ -ρ 18 + ρ 4 := f1
  have f2 : (0 : Int) ≤ -ρ 38 + ρ 6 := f2
  have f3 : (0 : Int) ≤ -ρ 41 + ρ 4 := f3
  have f4 : (0 : Int) ≤ -ρ 39 + ρ 4 + (-1) := f4
  have f5 : (0 : Int) ≤ -ρ 37 + ρ 4 + (-1) := f5
  have f6 : (0 : Int) ≤ -ρ 36 + ρ 4 + (-1) := f6
  have f7 : (0 : Int) ≤ ρ 33 + -ρ 12 := f7
  have f8 : (0 : Int) ≤ ρ 28 + -ρ 6 := f8
  have f9 : (0 : Int) ≤ -ρ 38 + ρ 28 + (-1) := f9
  have f10 : (0 : Int) ≤ ρ 25 + -ρ 4 := f10
  obtain ⟨m0, m1, m2, m3, m4, m5, m6, m7, m8, m9, m10, m11, m12, m13, m14, m15, m16, m17, m18, m19, m20, m21, m22, m23, m24, m25, m26, m27, m28, m29, m30, m31, m32, m33, m34, m35, m36, m37, m38, m39, m40, m41, m42, m43, m44, -⟩ := hm
  have m0 : γ 0 1 0 10 = ρ 0 := m0
  have m1 : γ 0 40 0 (ρ 0) = ρ 1 := m1
  have m2 : γ 0 9 (ρ 1) 2 = ρ 2 := m2
  have m3 : γ 0 2 0 6 = ρ 3 := m3
  have m4 : γ 0 2 0 3 = ρ 4 := m4
  have m5 : γ 0 2 0 7 = ρ 5 := m5
  have m6 : γ 0 1 0 7 = ρ 6 := m6
  have m7 : γ 0 2 0 4 = ρ 7 := m7
  have m8 : γ 0 2 0 5 = ρ 8 := m8
  have m9 : γ 0 2 0 9 = ρ 9 := m9
  have m10 : γ 0 2 0 13 = ρ 10 := m10
  have m11 : γ 0 2 0 16 = ρ 11 := m11
  have m12 : γ 0 3 0 1 = ρ 12 := m12
  have m13 : γ 0 9 (ρ 1) 3 = ρ 13 := m13
  have m14 : γ 0 10 (9 * ρ 1) 4 = ρ 14 := m14
  have m15 : γ 0 10 (9 * ρ 1) 5 = ρ 15 := m15
  have m16 : γ 0 10 (9 * ρ 1) 7 = ρ 16 := m16
  have m17 : γ 0 10 (9 * ρ 1) 8 = ρ 17 := m17
  have m18 : γ 0 10 (9 * ρ 1) 9 = ρ 18 := m18
  have m19 : γ 0 10 (9 * ρ 1) 12 = ρ 19 := m19
  have m20 : γ 0 10 (9 * ρ 1) 13 = ρ 20 := m20
  have m21 : γ 0 10 (9 * ρ 1) 14 = ρ 21 := m21
  have m22 : γ 0 10 (9 * ρ 1) 15 = ρ 22 := m22
  have m23 : γ 1 9 (ρ 1) 2 = ρ 24 := m23
  have m24 : γ 1 2 0 6 = ρ 25 := m24
  have m25 : γ 1 2 0 3 = ρ 26 := m25
  have m26 : γ 1 2 0 7 = ρ 27 := m26
  have m27 : γ 1 1 0 7 = ρ 28 := m27
  have m28 : γ 1 2 0 4 = ρ 7 := m28
  have m29 : γ 1 2 0 5 = ρ 29 := m29
  have m30 : γ 1 2 0 9 = ρ 30 := m30
  have m31 : γ 1 2 0 13 = ρ 31 := m31
  have m32 : γ 1 2 0 16 = ρ 32 := m32
  have m33 : γ 1 3 0 1 = ρ 33 := m33
  have m34 : γ 1 9 (ρ 1) 3 = ρ 34 := m34
  have m35 : γ 1 10 (9 * ρ 1) 4 = ρ 35 := m35
  have m36 : γ 1 10 (9 * ρ 1) 5 = ρ 36 := m36
  have m37 : γ 1 10 (9 * ρ 1) 7 = ρ 37 := m37
  have m38 : γ 1 10 (9 * ρ 1) 8 = ρ 38 := m38
  have m39 : γ 1 10 (9 * ρ 1) 9 = ρ 39 := m39
  have m40 : γ 1 10 (9 * ρ 1) 12 = ρ 40 := m40
  have m41 : γ 1 10 (9 * ρ 1) 13 = ρ 41 := m41
  have m42 : γ 1 10 (9 * ρ 1) 14 = ρ 42 := m42
  have m43 : γ 1 10 (9 * ρ 1) 15 = ρ 43 := m43
  have m44 : γ 1 46 (9 * ρ 1) (ρ 23) = ρ 44 := m44
  obtain ⟨⟨-, c1⟩, c2⟩ := hc
  have c1 : ∀ (G : Nat) (k j : Int), ¬ rMdP m130_ G j → γ 1 G k j = γ 0 G k j := c1
  have c2 : γ 2 = rUp (γ 1) 33 0 (ρ 23) (ρ 44) := c2
  show jr221 [ρ 0, ρ 1, ρ 2, ρ 3, ρ 4, ρ 5, ρ 6, ρ 7, ρ 8, ρ 9, ρ 10, ρ 11, ρ 12, ρ 13, ρ 14, ρ 15, ρ 16, ρ 17, ρ 18, ρ 19, ρ 20, ρ 21, ρ 22] (γ 0) 0 [ρ 0, ρ 1, ρ 2, ρ 3, ρ 4, ρ 5, ρ 6, ρ 7, ρ 8, ρ 9, ρ 10, ρ 11, ρ 12, ρ 13, ρ 14, ρ 15, ρ 16, ρ 17, ρ 18, ρ 19, ρ 20, ρ 21, ρ 22, ρ 23 + 1, ρ 24, ρ 25, ρ 26, ρ 27, ρ 28, ρ 29, ρ 30, ρ 31, ρ 32, ρ 33, ρ 34, ρ 35, ρ 36, ρ 37, ρ 38, ρ 39, ρ 40, ρ 41, ρ 42, ρ 43] (γ 2)
  exact eqC_tr hJ (eqC_up c2 (by decide))
theorem un221 {S : Nat → zSpc} (hS111 : ∀ x g o v gz, S 111 x g o v gz → sn111 x g o v gz) (hS112 : ∀ x g o v gz, S 112 x g o v gz → sn112 x g o v gz) (hS131 : ∀ x g o v gz, S 131 x g o v gz → sn131 x g o v gz) (hS146 : ∀ x g o v gz, S 146 x g o v gz → sn146 x g o v gz) (hS147 : ∀ x g o v gz, S 147 x g o v gz → sn147 x g o v gz) (hS149 : ∀ x g o v gz, S 149 x g o v gz → sn149 x g o v gz) : ∀ x g o v gz, zSem uW uT w221_.2.2.2.1 w221_.2.2.1.1.length S q221 (fun i => q221a.getD i []) (zNA a221_) x g o v gz → sr221 x g o v gz := by
  intro a g o v gz h
  exact zSem_all (l0 := q221) (las := q221a) (S := S) (J := (fun i vs g1 => jr221 a g i vs g1)) (P := sr221 a g) (fun _ => (show zAll _ [q221_0, q221_1, q221_2, q221_3, q221_4, q221_5, q221_6, q221_7] from (zAll_c (wn221_0 hS111 hS112 hS131 hS146 hS147 hS149) (zAll_c (wn221_1 hS111 hS112 hS131 hS146 hS147 hS149) (zAll_c (wn221_2 hS111 hS112 hS131 hS146 hS147 hS149) (zAll_c (wn221_3 hS111 hS112 hS131 hS146 hS147 hS149) (zAll_c (wn221_4 hS111 hS112 hS131 hS146 hS147 hS149) (zAll_c (wn221_5 hS111 hS112 hS131 hS146 hS147 hS149) (zAll_c (wn221_6 hS111 hS112 hS131 hS146 hS147 hS149) (zAll_c (wn221_7 hS111 hS112 hS131 hS146 hS147 hS149) zAll_n)))))))))) (fun _ => (show zAllI _ 0 [q221a0] from ⟨(show zAll _ [q221a0_0, q221a0_1] from (zAll_c (wn221a0_0 hS111 hS112 hS131 hS146 hS147 hS149) (zAll_c (wn221a0_1 hS111 hS112 hS131 hS146 hS147 hS149) zAll_n))), trivial⟩)) h
theorem wn266_0 {S : Nat → zSpc} (hS111 : ∀ x g o v gz, S 111 x g o v gz → sn111 x g o v gz) (hS112 : ∀ x g o v gz, S 112 x g o v gz → sn112 x g o v gz) (hS131 : ∀ x g o v gz, S 131 x g o v gz → sn131 x g o v gz) (hS159 : ∀ x g o v gz, S 159 x g o v gz → sn159 x g o v gz) (hS162 : ∀ x g o v gz, S 162 x g o v gz → sn162 x g o v gz) {a : List Int} {g : rHp} : ∀ (ρ : Nat → Int) (γ : Nat → rHp), zO 27 S a g q266_0 ρ γ → zGl (fun _ _ _ => True) (sr266 a g) q266_0 ρ γ := by
  intro ρ γ h
  obtain ⟨ha, hg, hr, hf, hm, hc, hl⟩ := h
  have ha : a = [ρ 0, ρ 1, ρ 2, ρ 3, ρ 4, ρ 5, ρ 6, ρ 7, ρ 8, ρ 9, ρ 10, ρ 11, ρ 12, ρ 13, ρ 14, ρ 15, ρ 16, ρ 17, ρ 18, ρ 19, ρ 20, ρ 21, ρ 22, ρ 23, ρ 24, ρ 25, ρ 26] := ha
  subst ha
  subst hg
  obtain ⟨r0, r1, r2, r3, r4, r5, r6, r7, r8, r9, r10, r11, r12, r13, r14, r15, r16, r17, r18, r19, r20, r21, r22, r23, r24, r25, r26, r27, r28, r29, r30, r31, r32, r33, r34, r35, r36, r37, -⟩ := hr
  have r0 : (0 : Int) ≤ ρ 0 ∧ ρ 0 ≤ 60 := r0
  have r1 : (0 : Int) ≤ ρ 1 ∧ ρ 1 ≤ 60 := r1
  have r2 : (0 : Int) ≤ ρ 2 ∧ ρ 2 ≤ 8 := r2
  have r3 : (0 : Int) ≤ ρ 3 ∧ ρ 3 ≤ 2001 := r3
  have r4 : (0 : Int) ≤ ρ 4 ∧ ρ 4 ≤ 2000 := r4
  have r5 : (0 : Int) ≤ ρ 5 ∧ ρ 5 ≤ 2 := r5
  have r6 : ((-2147483648) : Int) ≤ ρ 6 ∧ ρ 6 ≤ 2147483647 := r6
  have r7 : (0 : Int) ≤ ρ 7 ∧ ρ 7 ≤ 20 := r7
  have r8 : ((-2147483648) : Int) ≤ ρ 8 ∧ ρ 8 ≤ 2147483647 := r8
  have r9 : ((-2147483648) : Int) ≤ ρ 9 ∧ ρ 9 ≤ 2147483647 := r9
  have r10 : ((-2147483648) : Int) ≤ ρ 10 ∧ ρ 10 ≤ 2147483647 := r10
  have r11 : (0 : Int) ≤ ρ 11 ∧ ρ 11 ≤ 8 := r11
  have r12 : (0 : Int) ≤ ρ 12 ∧ ρ 12 ≤ 32 := r12
  have r13 : (0 : Int) ≤ ρ 13 ∧ ρ 13 ≤ 5120 := r13
  have r14 : (0 : Int) ≤ ρ 14 ∧ ρ 14 ≤ 2000 := r14
  have r15 : (0 : Int) ≤ ρ 15 ∧ ρ 15 ≤ 2000 := r15
  have r16 : (0 : Int) ≤ ρ 16 ∧ ρ 16 ≤ 50001 := r16
  have r17 : ((-2147483648) : Int) ≤ ρ 17 ∧ ρ 17 ≤ 2147483647 := r17
  have r18 : (0 : Int) ≤ ρ 18 ∧ ρ 18 ≤ 2 := r18
  have r19 : ((-2147483648) : Int) ≤ ρ 19 ∧ ρ 19 ≤ 2147483647 := r19
  have r20 : (0 : Int) ≤ ρ 20 ∧ ρ 20 ≤ 2000 := r20
  have r21 : (0 : Int) ≤ ρ 21 ∧ ρ 21 ≤ 2000 := r21
  have r22 : ((-2147483648) : Int) ≤ ρ 22 ∧ ρ 22 ≤ 2147483647 := r22
  have r23 : (0 : Int) ≤ ρ 23 ∧ ρ 23 ≤ 8 := r23
  have r24 : ((-1) : Int) ≤ ρ 24 ∧ ρ 24 ≤ 19 := r24
  have r25 : (0 : Int) ≤ ρ 25 ∧ ρ 25 ≤ 4 := r25
  have r26 : ((-1) : Int) ≤ ρ 26 ∧ ρ 26 ≤ 7 := r26
  have r27 : (1 : Int) ≤ ρ 27 ∧ ρ 27 ≤ 1 := r27
  have r28 : (0 : Int) ≤ ρ 28 ∧ ρ 28 ≤ 8 := r28
  have r29 : (0 : Int) ≤ ρ 29 ∧ ρ 29 ≤ 2001 := r29
  have r30 : (0 : Int) ≤ ρ 30 ∧ ρ 30 ≤ 8 := r30
  have r31 : (0 : Int) ≤ ρ 31 ∧ ρ 31 ≤ 20 := r31
  have r32 : ((-2147483648) : Int) ≤ ρ 32 ∧ ρ 32 ≤ 2147483647 := r32
  have r33 : ((-2147483648) : Int) ≤ ρ 33 ∧ ρ 33 ≤ 2147483647 := r33
  have r34 : ((-2147483648) : Int) ≤ ρ 34 ∧ ρ 34 ≤ 2147483647 := r34
  have r35 : (0 : Int) ≤ ρ 35 ∧ ρ 35 ≤ 8 := r35
  have r36 : (0 : Int) ≤ ρ 36 ∧ ρ 36 ≤ 32 := r36
  have r37 : (0 : Int) ≤ ρ 37 ∧ ρ 37 ≤ 5120 := r37
  obtain ⟨f0, f1, f2, f3, f4, -⟩ := hf
  have f0 : (0 : Int) ≤ -ρ 30 + ρ 28 := f0
  have f1 : (0 : Int) ≤ ρ 29 + -ρ 28 := f1
  have f2 : (0 : Int) ≤ ρ 31 + -ρ 7 := f2
  have f3 : (0 : Int) ≤ ρ 37 + -ρ 13 := f3
  have f4 : (0 : Int) ≤ -ρ 28 + ρ 4 := f4
  obtain ⟨m0, m1, m2, m3, m4, m5, m6, m7, m8, m9, m10, m11, m12, m13, m14, m15, m16, m17, m18, m19, m20, m21, m22, m23, m24, m25, m26, m27, m28, m29, m30, m31, m32, m33, m34, m35, m36, m37, m38, m39, m40, m41, m42, m43, m44, m45, -⟩ := hm
  have m0 : γ 0 1 0 10 = ρ 0 := m0
  have m1 : γ 0 40 0 (ρ 0) = ρ 1 := m1
  have m2 : γ 0 9 (ρ 1) 2 = ρ 2 := m2
  have m3 : γ 0 2 0 6 = ρ 3 := m3
  have m4 : γ 0 2 0 3 = ρ 4 := m4
  have m5 : γ 0 2 0 7 = ρ 5 := m5
  have m6 : γ 0 0 0 8 = ρ 6 := m6
  have m7 : γ 0 1 0 7 = ρ 7 := m7
  have m8 : γ 0 2 0 4 = ρ 8 := m8
  have m9 : γ 0 2 0 5 = ρ 9 := m9
  have m10 : γ 0 2 0 9 = ρ 10 := m10
  have m11 : γ 0 2 0 13 = ρ 11 := m11
  have m12 : γ 0 2 0 16 = ρ 12 := m12
  have m13 : γ 0 3 0 1 = ρ 13 := m13
  have m14 : γ 0 4 0 7 = ρ 14 := m14
  have m15 : γ 0 5 0 3 = ρ 15 := m15
  have m16 : γ 0 6 0 0 = ρ 16 := m16
  have m17 : γ 0 6 0 8 = ρ 17 := m17
  have m18 : γ 0 6 0 9 = ρ 18 := m18
  have m19 : γ 0 6 0 10 = ρ 19 := m19
  have m20 : γ 0 6 0 11 = ρ 20 := m20
  have m21 : γ 0 6 0 12 = ρ 21 := m21
  have m22 : γ 0 6 0 13 = ρ 22 := m22
  have m23 : γ 0 9 (ρ 1) 3 = ρ 23 := m23
  have m24 : γ 0 10 (9 * ρ 1) 8 = ρ 24 := m24
  have m25 : γ 0 10 (9 * ρ 1) 12 = ρ 25 := m25
  have m26 : γ 0 10 (9 * ρ 1) 14 = ρ 26 := m26
  have m27 : γ 0 0 0 7 = ρ 27 := m27
  have m28 : γ 2 2 0 5 = 0 := m28
  have m29 : γ 2 2 0 6 = 0 := m29
  have m30 : γ 2 2 0 7 = 2 := m30
  have m31 : γ 2 2 0 13 = 0 := m31
  have m32 : γ 2 2 0 16 = 0 := m32
  have m33 : γ 3 9 (ρ 1) 2 = ρ 28 := m33
  have m34 : γ 3 2 0 6 = ρ 29 := m34
  have m35 : γ 3 10 (9 * ρ 1) 8 = ρ 24 := m35
  have m36 : γ 3 10 (9 * ρ 1) 12 = ρ 25 := m36
  have m37 : γ 3 9 (ρ 1) 3 = ρ 30 := m37
  have m38 : γ 3 1 0 7 = ρ 31 := m38
  have m39 : γ 3 2 0 4 = ρ 32 := m39
  have m40 : γ 3 2 0 5 = ρ 33 := m40
  have m41 : γ 3 2 0 9 = ρ 34 := m41
  have m42 : γ 3 2 0 13 = ρ 35 := m42
  have m43 : γ 3 2 0 16 = ρ 36 := m43
  have m44 : γ 3 3 0 1 = ρ 37 := m44
  have m45 : γ 4 2 0 3 = 0 := m45
  obtain ⟨⟨⟨⟨-, c1⟩, c2⟩, c3⟩, c4⟩ := hc
  have c1 : ∀ (G : Nat) (k j : Int), ¬ rMdP m0_ G j → γ 1 G k j = γ 0 G k j := c1
  have c2 : ∀ (G : Nat) (k j : Int), ¬ rMdP m74_ G j → γ 2 G k j = γ 1 G k j := c2
  have c3 : ∀ (G : Nat) (k j : Int), ¬ rMdP m107_ G j → γ 3 G k j = γ 2 G k j := c3
  have c4 : ∀ (G : Nat) (k j : Int), ¬ rMdP m75_ G j → γ 4 G k j = γ 3 G k j := c4
  obtain ⟨l0, l1, l2, l3, -⟩ := hl
  have l0 : sn131 [ρ 0, ρ 1] (γ 0) 0 (ρ 1) (γ 1) := hS131 _ _ _ _ _ l0
  have l1 : sn111 [2, ρ 9, ρ 3, ρ 5, ρ 11, ρ 12] (γ 1) 0 0 (γ 2) := hS111 _ _ _ _ _ l1
  have l2 : sn159 [ρ 0, ρ 1, ρ 2, 0, ρ 4, 2, ρ 24, ρ 25, ρ 26, ρ 23, ρ 7, ρ 8, 0, ρ 10, 0, 0, ρ 13] (γ 2) 0 0 (γ 3) := hS159 _ _ _ _ _ l2
  have l3 : sn112 [ρ 4] (γ 3) 0 0 (γ 4) := hS112 _ _ _ _ _ l3
  show sr266 [ρ 0, ρ 1, ρ 2, ρ 3, ρ 4, ρ 5, ρ 6, ρ 7, ρ 8, ρ 9, ρ 10, ρ 11, ρ 12, ρ 13, ρ 14, ρ 15, ρ 16, ρ 17, ρ 18, ρ 19, ρ 20, ρ 21, ρ 22, ρ 23, ρ 24, ρ 25, ρ 26] (γ 0) 0 (-ρ 32 + (-1)) (γ 4)
  have h7 : γ 0 0 0 7 ≠ 0 := by rw [m27]; omega
  have e1 : γ 1 = γ 0 := congrArg (fun r : zR => r.2.2) l0
  have e2 : γ 2 = qUc 2 (γ 1) := congrArg (fun r : zR => r.2.2) l1
  have e3 : γ 3 = (fn159 [] (γ 2)).2.2 := congrArg (fun r : zR => r.2.2) l2
  have hb : hA1 (γ 0) = rUp (γ 3) 2 0 3 0 := by
    unfold hA1
    rw [if_pos h7, ← e1, ← e2, ← e3]
  show eqC (hA1 (γ 0)) (γ 4)
  have k1 : eqC (rUp (γ 3) 2 0 3 0) (γ 4) := by
    rw [f112 l3]
    exact eqC_3 eqC_rf
  rw [hb]
  exact eqC_tr k1 eqC_rf
theorem wn266_1 {S : Nat → zSpc} (hS111 : ∀ x g o v gz, S 111 x g o v gz → sn111 x g o v gz) (hS112 : ∀ x g o v gz, S 112 x g o v gz → sn112 x g o v gz) (hS131 : ∀ x g o v gz, S 131 x g o v gz → sn131 x g o v gz) (hS159 : ∀ x g o v gz, S 159 x g o v gz → sn159 x g o v gz) (hS162 : ∀ x g o v gz, S 162 x g o v gz → sn162 x g o v gz) {a : List Int} {g : rHp} : ∀ (ρ : Nat → Int) (γ : Nat → rHp), zO 27 S a g q266_1 ρ γ → zGl (fun _ _ _ => True) (sr266 a g) q266_1 ρ γ := by
  intro ρ γ h
  obtain ⟨ha, hg, hr, hf, hm, hc, hl⟩ := h
  have ha : a = [ρ 0, ρ 1, ρ 2, ρ 3, ρ 4, ρ 5, ρ 6, ρ 7, ρ 8, ρ 9, ρ 10, ρ 11, ρ 12, ρ 13, ρ 14, ρ 15, ρ 16, ρ 17, ρ 18, ρ 19, ρ 20, ρ 21, ρ 22, ρ 23, ρ 24, ρ 25, ρ 26] := ha
  subst ha
  subst hg
  obtain ⟨r0, r1, r2, r3, r4, r5, r6, r7, r8, r9, r10, r11, r12, r13, r14, r15, r16, r17, r18, r19, r20, r21, r22, r23, r24, r25, r26, r27, r28, r29, r30, r31, r32, r33, r34, r35, r36, r37, r38, r39, r40, r41, r42, r43, r44, r45, -⟩ := hr
  have r0 : (0 : Int) ≤ ρ 0 ∧ ρ 0 ≤ 60 := r0
  have r1 : (0 : Int) ≤ ρ 1 ∧ ρ 1 ≤ 60 := r1
  have r2 : (0 : Int) ≤ ρ 2 ∧ ρ 2 ≤ 8 := r2
  have r3 : (0 : Int) ≤ ρ 3 ∧ ρ 3 ≤ 2001 := r3
  have r4 : (1 : Int) ≤ ρ 4 ∧ ρ 4 ≤ 2000 := r4
  have r5 : (0 : Int) ≤ ρ 5 ∧ ρ 5 ≤ 2 := r5
  have r6 : ((-2147483648) : Int) ≤ ρ 6 ∧ ρ 6 ≤ 2147483647 := r6
  have r7 : (0 : Int) ≤ ρ 7 ∧ ρ 7 ≤ 20 := r7
  have r8 : ((-2147483648) : Int) ≤ ρ 8 ∧ ρ 8 ≤ 2147483647 := r8
  have r9 : ((-2147483648) : Int) ≤ ρ 9 ∧ ρ 9 ≤ 2147483647 := r9
  have r10 : ((-2147483648) : Int) ≤ ρ 10 ∧ ρ 10 ≤ 2147483647 := r10
  have r11 : (0 : Int) ≤ ρ 11 ∧ ρ 11 ≤ 8 := r11
  have r12 : (0 : Int) ≤ ρ 12 ∧ ρ 12 ≤ 32 := r12
  have r13 : (0 : Int) ≤ ρ 13 ∧ ρ 13 ≤ 5120 := r13
  have r14 : (0 : Int) ≤ ρ 14 ∧ ρ 14 ≤ 2000 := r14
  have r15 : (0 : Int) ≤ ρ 15 ∧ ρ 15 ≤ 2000 := r15
  have r16 : (0 : Int) ≤ ρ 16 ∧ ρ 16 ≤ 50001 := r16
  have r17 : ((-2147483648) : Int) ≤ ρ 17 ∧ ρ 17 ≤ 2147483647 := r17
  have r18 : (0 : Int) ≤ ρ 18 ∧ ρ 18 ≤ 2 := r18
  have r19 : ((-2147483648) : Int) ≤ ρ 19 ∧ ρ 19 ≤ 2147483647 := r19
  have r20 : (0 : Int) ≤ ρ 20 ∧ ρ 20 ≤ 2000 := r20
  have r21 : (0 : Int) ≤ ρ 21 ∧ ρ 21 ≤ 2000 := r21
  have r22 : ((-2147483648) : Int) ≤ ρ 22 ∧ ρ 22 ≤ 2147483647 := r22
  have r23 : (0 : Int) ≤ ρ 23 ∧ ρ 23 ≤ 8 := r23
  have r24 : ((-1) : Int) ≤ ρ 24 ∧ ρ 24 ≤ 19 := r24
  have r25 : (0 : Int) ≤ ρ 25 ∧ ρ 25 ≤ 4 := r25
  have r26 : ((-1) : Int) ≤ ρ 26 ∧ ρ 26 ≤ 7 := r26
  have r27 : (1 : Int) ≤ ρ 27 ∧ ρ 27 ≤ 1 := r27
  have r28 : (1 : Int) ≤ ρ 28 ∧ ρ 28 ≤ 8 := r28
  have r29 : (3 : Int) ≤ ρ 29 ∧ ρ 29 ≤ 2001 := r29
  have r30 : (0 : Int) ≤ ρ 30 ∧ ρ 30 ≤ 8 := r30
  have r31 : (0 : Int) ≤ ρ 31 ∧ ρ 31 ≤ 20 := r31
  have r32 : ((-2147483648) : Int) ≤ ρ 32 ∧ ρ 32 ≤ 2147483647 := r32
  have r33 : ((-2147483648) : Int) ≤ ρ 33 ∧ ρ 33 ≤ 2147483647 := r33
  have r34 : (0 : Int) ≤ ρ 34 ∧ ρ 34 ≤ 8 := r34
  have r35 : (0 : Int) ≤ ρ 35 ∧ ρ 35 ≤ 32 := r35
  have r36 : (0 : Int) ≤ ρ 36 ∧ ρ 36 ≤ 5120 := r36
  have r37 : (0 : Int) ≤ ρ 37 ∧ ρ 37 ≤ 2 := r37
  have r38 : (0 : Int) ≤ ρ 38 ∧ ρ 38 ≤ 50001 := r38
  have r39 : ((-2147483648) : Int) ≤ ρ 39 ∧ ρ 39 ≤ 2147483647 := r39
  have r40 : (0 : Int) ≤ ρ 40 ∧ ρ 40 ≤ 50001 := r40
  have r41 : (0 : Int) ≤ ρ 41 ∧ ρ 41 ≤ 50000 := r41
  have r42 : (0 : Int) ≤ ρ 42 ∧ ρ 42 ≤ 2000 := r42
  have r43 : (0 : Int) ≤ ρ 43 ∧ ρ 43 ≤ 2000 := r43
  have r44 : ((-2147483648) : Int) ≤ ρ 44 ∧ ρ 44 ≤ 2147483647 := r44
  have r45 : (0 : Int) ≤ ρ 45 ∧ ρ 45 ≤ 2 := r45
  obtain ⟨f0, f1, f2, f3, f4, f5, f6, -⟩ := hf
  have f0 : (0 : Int) ≤ ρ 42 + -ρ 14 := f0
  have f1 : (0 : Int) ≤ ρ 43 + -ρ 15 := f1
  have f2 : (0 : Int) ≤ -ρ 30 + ρ 28 := f2
  have f3 : (0 : Int) ≤ ρ 29 + -ρ 4 + (-1) := f3
  have f4 : (0 : Int) ≤ ρ 31 + -ρ 7 := f4
  have f5 : (0 : Int) ≤ ρ 36 + -ρ 13 := f5
  have f6 : (0 : Int) ≤ -ρ 28 + ρ 4 := f6
  obtain ⟨m0, m1, m2, m3, m4, m5, m6, m7, m8, m9, m10, m11, m12, m13, m14, m15, m16, m17, m18, m19, m20, m21, m22, m23, m24, m25, m26, m27, m28, m29, m30, m31, m32, m33, m34, m35, m36, m37, m38, m39, m40, m41, m42, m43, m44, m45, m46, m47, m48, m49, m50, m51, m52, m53, m54, m55, m56, m57, m58, m59, m60, -⟩ := hm
  have m0 : γ 0 1 0 10 = ρ 0 := m0
  have m1 : γ 0 40 0 (ρ 0) = ρ 1 := m1
  have m2 : γ 0 9 (ρ 1) 2 = ρ 2 := m2
  have m3 : γ 0 2 0 6 = ρ 3 := m3
  have m4 : γ 0 2 0 3 = ρ 4 := m4
  have m5 : γ 0 2 0 7 = ρ 5 := m5
  have m6 : γ 0 0 0 8 = ρ 6 := m6
  have m7 : γ 0 1 0 7 = ρ 7 := m7
  have m8 : γ 0 2 0 4 = ρ 8 := m8
  have m9 : γ 0 2 0 5 = ρ 9 := m9
  have m10 : γ 0 2 0 9 = ρ 10 := m10
  have m11 : γ 0 2 0 13 = ρ 11 := m11
  have m12 : γ 0 2 0 16 = ρ 12 := m12
  have m13 : γ 0 3 0 1 = ρ 13 := m13
  have m14 : γ 0 4 0 7 = ρ 14 := m14
  have m15 : γ 0 5 0 3 = ρ 15 := m15
  have m16 : γ 0 6 0 0 = ρ 16 := m16
  have m17 : γ 0 6 0 8 = ρ 17 := m17
  have m18 : γ 0 6 0 9 = ρ 18 := m18
  have m19 : γ 0 6 0 10 = ρ 19 := m19
  have m20 : γ 0 6 0 11 = ρ 20 := m20
  have m21 : γ 0 6 0 12 = ρ 21 := m21
  have m22 : γ 0 6 0 13 = ρ 22 := m22
  have m23 : γ 0 9 (ρ 1) 3 = ρ 23 := m23
  have m24 : γ 0 10 (9 * ρ 1) 8 = ρ 24 := m24
  have m25 : γ 0 10 (9 * ρ 1) 12 = ρ 25 := m25
  have m26 : γ 0 10 (9 * ρ 1) 14 = ρ 26 := m26
  have m27 : γ 0 0 0 7 = ρ 27 := m27
  have m28 : γ 2 2 0 5 = 0 := m28
  have m29 : γ 2 2 0 6 = 0 := m29
  have m30 : γ 2 2 0 7 = 2 := m30
  have m31 : γ 2 2 0 13 = 0 := m31
  have m32 : γ 2 2 0 16 = 0 := m32
  have m33 : γ 3 9 (ρ 1) 2 = ρ 28 := m33
  have m34 : γ 3 2 0 6 = ρ 29 := m34
  have m35 : γ 3 10 (9 * ρ 1) 8 = ρ 24 := m35
  have m36 : γ 3 10 (9 * ρ 1) 12 = ρ 25 := m36
  have m37 : γ 3 9 (ρ 1) 3 = ρ 30 := m37
  have m38 : γ 3 1 0 7 = ρ 31 := m38
  have m39 : γ 3 2 0 4 = ρ 8 := m39
  have m40 : γ 3 2 0 5 = ρ 32 := m40
  have m41 : γ 3 2 0 9 = ρ 33 := m41
  have m42 : γ 3 2 0 13 = ρ 34 := m42
  have m43 : γ 3 2 0 16 = ρ 35 := m43
  have m44 : γ 3 3 0 1 = ρ 36 := m44
  have m45 : γ 4 2 0 3 = 0 := m45
  have m46 : γ 0 0 0 6 = ρ 37 := m46
  have m47 : γ 0 8 (ρ 37) 1 = ρ 38 := m47
  have m48 : γ 0 8 (ρ 37) 2 = ρ 39 := m48
  have m49 : γ 5 8 (ρ 37) 1 = 0 := m49
  have m50 : γ 5 8 (ρ 37) 2 = 0 := m50
  have m51 : γ 7 8 (ρ 37) 1 = ρ 40 := m51
  have m52 : γ 7 6 0 0 = ρ 41 := m52
  have m53 : γ 7 4 0 7 = ρ 42 := m53
  have m54 : γ 7 5 0 3 = ρ 43 := m54
  have m55 : γ 7 6 0 8 = (-1) := m55
  have m56 : γ 7 6 0 9 = 2 := m56
  have m57 : γ 7 6 0 10 = 0 := m57
  have m58 : γ 7 6 0 11 = ρ 14 := m58
  have m59 : γ 7 6 0 13 = ρ 44 := m59
  have m60 : γ 0 0 0 5 = ρ 45 := m60
  obtain ⟨⟨⟨⟨⟨⟨⟨⟨⟨⟨-, c1⟩, c2⟩, c3⟩, c4⟩, c5⟩, c6⟩, c7⟩, c8⟩, c9⟩, c10⟩ := hc
  have c1 : ∀ (G : Nat) (k j : Int), ¬ rMdP m0_ G j → γ 1 G k j = γ 0 G k j := c1
  have c2 : ∀ (G : Nat) (k j : Int), ¬ rMdP m74_ G j → γ 2 G k j = γ 1 G k j := c2
  have c3 : ∀ (G : Nat) (k j : Int), ¬ rMdP m107_ G j → γ 3 G k j = γ 2 G k j := c3
  have c4 : ∀ (G : Nat) (k j : Int), ¬ rMdP m75_ G j → γ 4 G k j = γ 3 G k j := c4
  have c5 : ∀ (G : Nat) (k j : Int), ¬ rMdP m110_ G j → γ 5 G k j = γ 4 G k j := c5
  have c6 : γ 6 = rUp (γ 5) 8 (ρ 37) 2 (ρ 32) := c6
  have c7 : ∀ (G : Nat) (k j : Int), ¬ rMdP m141_ G j → γ 7 G k j = γ 6 G k j := c7
  have c8 : γ 8 = rUp (γ 7) 0 0 5 (ρ 37) := c8
  have c9 : γ 9 = rUp (γ 8) 0 0 6 (ρ 45) := c9
  have c10 : γ 10 = rUp (γ 9) 0 0 8 (ρ 41) := c10
  obtain ⟨l0, l1, l2, l3, l4, l5, -⟩ := hl
  have l0 : sn131 [ρ 0, ρ 1] (γ 0) 0 (ρ 1) (γ 1) := hS131 _ _ _ _ _ l0
  have l1 : sn111 [2, ρ 9, ρ 3, ρ 5, ρ 11, ρ 12] (γ 1) 0 0 (γ 2) := hS111 _ _ _ _ _ l1
  have l2 : sn159 [ρ 0, ρ 1, ρ 2, 0, ρ 4, 2, ρ 24, ρ 25, ρ 26, ρ 23, ρ 7, ρ 8, 0, ρ 10, 0, 0, ρ 13] (γ 2) 0 1 (γ 3) := hS159 _ _ _ _ _ l2
  have l3 : sn112 [ρ 4] (γ 3) 0 0 (γ 4) := hS112 _ _ _ _ _ l3
  have l4 : sn162 [ρ 37, ρ 38, ρ 39] (γ 4) 0 0 (γ 5) := hS162 _ _ _ _ _ l4
  show sr266 [ρ 0, ρ 1, ρ 2, ρ 3, ρ 4, ρ 5, ρ 6, ρ 7, ρ 8, ρ 9, ρ 10, ρ 11, ρ 12, ρ 13, ρ 14, ρ 15, ρ 16, ρ 17, ρ 18, ρ 19, ρ 20, ρ 21, ρ 22, ρ 23, ρ 24, ρ 25, ρ 26] (γ 0) 0 (ρ 40) (γ 10)
  have h7 : γ 0 0 0 7 ≠ 0 := by rw [m27]; omega
  have e1 : γ 1 = γ 0 := congrArg (fun r : zR => r.2.2) l0
  have e2 : γ 2 = qUc 2 (γ 1) := congrArg (fun r : zR => r.2.2) l1
  have e3 : γ 3 = (fn159 [] (γ 2)).2.2 := congrArg (fun r : zR => r.2.2) l2
  have hb : hA1 (γ 0) = rUp (γ 3) 2 0 3 0 := by
    unfold hA1
    rw [if_pos h7, ← e1, ← e2, ← e3]
  show eqC (hA1 (γ 0)) (γ 10)
  have k1 : eqC (rUp (γ 3) 2 0 3 0) (γ 4) := by
    rw [f112 l3]
    exact eqC_3 eqC_rf
  rw [hb]
  exact eqC_tr k1 (eqC_tr (eqC_k (ms := m110_) (by decide +kernel) c5) (eqC_tr (eqC_up c6 (by decide)) (eqC_tr (eqC_k (ms := m141_) (by decide +kernel) c7) (eqC_tr (eqC_0 c8 (by decide)) (eqC_tr (eqC_0 c9 (by decide)) (eqC_0 c10 (by decide)))))))
theorem wn266_2 {S : Nat → zSpc} (hS111 : ∀ x g o v gz, S 111 x g o v gz → sn111 x g o v gz) (hS112 : ∀ x g o v gz, S 112 x g o v gz → sn112 x g o v gz) (hS131 : ∀ x g o v gz, S 131 x g o v gz → sn131 x g o v gz) (hS159 : ∀ x g o v gz, S 159 x g o v gz → sn159 x g o v gz) (hS162 : ∀ x g o v gz, S 162 x g o v gz → sn162 x g o v gz) {a : List Int} {g : rHp} : ∀ (ρ : Nat → Int) (γ : Nat → rHp), zO 27 S a g q266_2 ρ γ → zGl (fun _ _ _ => True) (sr266 a g) q266_2 ρ γ := by
  intro ρ γ h
  obtain ⟨ha, hg, hr, hf, hm, hc, hl⟩ := h
  have ha : a = [ρ 0, ρ 1, ρ 2, ρ 3, ρ 4, ρ 5, ρ 6, ρ 7, ρ 8, ρ 9, ρ 10, ρ 11, ρ 12, ρ 13, ρ 14, ρ 15, ρ 16, ρ 17, ρ 18, ρ 19, ρ 20, ρ 21, ρ 22, ρ 23, ρ 24, ρ 25, ρ 26] := ha
  subst ha
  subst hg
  obtain ⟨r0, r1, r2, r3, r4, r5, r6, r7, r8, r9, r10, r11, r12, r13, r14, r15, r16, r17, r18, r19, r20, r21, r22, r23, r24, r25, r26, r27, r28, r29, r30, r31, r32, r33, r34, r35, r36, r37, r38, r39, r40, r41, r42, r43, r44, -⟩ := hr
  have r0 : (0 : Int) ≤ ρ 0 ∧ ρ 0 ≤ 60 := r0
  have r1 : (0 : Int) ≤ ρ 1 ∧ ρ 1 ≤ 60 := r1
  have r2 : (0 : Int) ≤ ρ 2 ∧ ρ 2 ≤ 8 := r2
  have r3 : (0 : Int) ≤ ρ 3 ∧ ρ 3 ≤ 2001 := r3
  have r4 : (1 : Int) ≤ ρ 4 ∧ ρ 4 ≤ 2000 := r4
  have r5 : (0 : Int) ≤ ρ 5 ∧ ρ 5 ≤ 2 := r5
  have r6 : ((-2147483648) : Int) ≤ ρ 6 ∧ ρ 6 ≤ 2147483647 := r6
  have r7 : (0 : Int) ≤ ρ 7 ∧ ρ 7 ≤ 20 := r7
  have r8 : ((-2147483648) : Int) ≤ ρ 8 ∧ ρ 8 ≤ 2147483647 := r8
  have r9 : ((-2147483648) : Int) ≤ ρ 9 ∧ ρ 9 ≤ 2147483647 := r9
  have r10 : ((-2147483648) : Int) ≤ ρ 10 ∧ ρ 10 ≤ 2147483647 := r10
  have r11 : (0 : Int) ≤ ρ 11 ∧ ρ 11 ≤ 8 := r11
  have r12 : (0 : Int) ≤ ρ 12 ∧ ρ 12 ≤ 32 := r12
  have r13 : (0 : Int) ≤ ρ 13 ∧ ρ 13 ≤ 5120 := r13
  have r14 : (0 : Int) ≤ ρ 14 ∧ ρ 14 ≤ 2000 := r14
  have r15 : (0 : Int) ≤ ρ 15 ∧ ρ 15 ≤ 2000 := r15
  have r16 : (0 : Int) ≤ ρ 16 ∧ ρ 16 ≤ 50001 := r16
  have r17 : ((-2147483648) : Int) ≤ ρ 17 ∧ ρ 17 ≤ 2147483647 := r17
  have r18 : (0 : Int) ≤ ρ 18 ∧ ρ 18 ≤ 2 := r18
  have r19 : ((-2147483648) : Int) ≤ ρ 19 ∧ ρ 19 ≤ 2147483647 := r19
  have r20 : (0 : Int) ≤ ρ 20 ∧ ρ 20 ≤ 2000 := r20
  have r21 : (0 : Int) ≤ ρ 21 ∧ ρ 21 ≤ 2000 := r21
  have r22 : ((-2147483648) : Int) ≤ ρ 22 ∧ ρ 22 ≤ 2147483647 := r22
  have r23 : (0 : Int) ≤ ρ 23 ∧ ρ 23 ≤ 8 := r23
  have r24 : ((-1) : Int) ≤ ρ 24 ∧ ρ 24 ≤ 19 := r24
  have r25 : (0 : Int) ≤ ρ 25 ∧ ρ 25 ≤ 4 := r25
  have r26 : ((-1) : Int) ≤ ρ 26 ∧ ρ 26 ≤ 7 := r26
  have r27 : (1 : Int) ≤ ρ 27 ∧ ρ 27 ≤ 1 := r27
  have r28 : (1 : Int) ≤ ρ 28 ∧ ρ 28 ≤ 8 := r28
  have r29 : (3 : Int) ≤ ρ 29 ∧ ρ 29 ≤ 2001 := r29
  have r30 : (0 : Int) ≤ ρ 30 ∧ ρ 30 ≤ 8 := r30
  have r31 : (0 : Int) ≤ ρ 31 ∧ ρ 31 ≤ 20 := r31
  have r32 : ((-2147483648) : Int) ≤ ρ 32 ∧ ρ 32 ≤ 2147483647 := r32
  have r33 : ((-2147483648) : Int) ≤ ρ 33 ∧ ρ 33 ≤ 2147483647 := r33
  have r34 : (0 : Int) ≤ ρ 34 ∧ ρ 34 ≤ 8 := r34
  have r35 : (0 : Int) ≤ ρ 35 ∧ ρ 35 ≤ 32 := r35
  have r36 : (0 : Int) ≤ ρ 36 ∧ ρ 36 ≤ 5120 := r36
  have r37 : (0 : Int) ≤ ρ 37 ∧ ρ 37 ≤ 2 := r37
  have r38 : (0 : Int) ≤ ρ 38 ∧ ρ 38 ≤ 50001 := r38
  have r39 : ((-2147483648) : Int) ≤ ρ 39 ∧ ρ 39 ≤ 2147483647 := r39
  have r40 : (0 : Int) ≤ ρ 40 ∧ ρ 40 ≤ 50001 := r40
  have r41 : (50001 : Int) ≤ ρ 41 ∧ ρ 41 ≤ 50001 := r41
  have r42 : (0 : Int) ≤ ρ 42 ∧ ρ 42 ≤ 2000 := r42
  have r43 : (0 : Int) ≤ ρ 43 ∧ ρ 43 ≤ 2000 := r43
  have r44 : ((-2147483648) : Int) ≤ ρ 44 ∧ ρ 44 ≤ 2147483647 := r44
  obtain ⟨f0, f1, f2, f3, f4, f5, f6, -⟩ := hf
  have f0 : (0 : Int) ≤ ρ 42 + -ρ 14 := f0
  have f1 : (0 : Int) ≤ ρ 43 + -ρ 15 := f1
  have f2 : (0 : Int) ≤ -ρ 30 + ρ 28 := f2
  have f3 : (0 : Int) ≤ ρ 29 + -ρ 4 + (-1) := f3
  have f4 : (0 : Int) ≤ ρ 31 + -ρ 7 := f4
  have f5 : (0 : Int) ≤ ρ 36 + -ρ 13 := f5
  have f6 : (0 : Int) ≤ -ρ 28 + ρ 4 := f6
  obtain ⟨m0, m1, m2, m3, m4, m5, m6, m7, m8, m9, m10, m11, m12, m13, m14, m15, m16, m17, m18, m19, m20, m21, m22, m23, m24, m25, m26, m27, m28, m29, m30, m31, m32, m33, m34, m35, m36, m37, m38, m39, m40, m41, m42, m43, m44, m45, m46, m47, m48, m49, m50, m51, m52, m53, m54, m55, m56, m57, m58, m59, -⟩ := hm
  have m0 : γ 0 1 0 10 = ρ 0 := m0
  have m1 : γ 0 40 0 (ρ 0) = ρ 1 := m1
  have m2 : γ 0 9 (ρ 1) 2 = ρ 2 := m2
  have m3 : γ 0 2 0 6 = ρ 3 := m3
  have m4 : γ 0 2 0 3 = ρ 4 := m4
  have m5 : γ 0 2 0 7 = ρ 5 := m5
  have m6 : γ 0 0 0 8 = ρ 6 := m6
  have m7 : γ 0 1 0 7 = ρ 7 := m7
  have m8 : γ 0 2 0 4 = ρ 8 := m8
  have m9 : γ 0 2 0 5 = ρ 9 := m9
  have m10 : γ 0 2 0 9 = ρ 10 := m10
  have m11 : γ 0 2 0 13 = ρ 11 := m11
  have m12 : γ 0 2 0 16 = ρ 12 := m12
  have m13 : γ 0 3 0 1 = ρ 13 := m13
  have m14 : γ 0 4 0 7 = ρ 14 := m14
  have m15 : γ 0 5 0 3 = ρ 15 := m15
  have m16 : γ 0 6 0 0 = ρ 16 := m16
  have m17 : γ 0 6 0 8 = ρ 17 := m17
  have m18 : γ 0 6 0 9 = ρ 18 := m18
  have m19 : γ 0 6 0 10 = ρ 19 := m19
  have m20 : γ 0 6 0 11 = ρ 20 := m20
  have m21 : γ 0 6 0 12 = ρ 21 := m21
  have m22 : γ 0 6 0 13 = ρ 22 := m22
  have m23 : γ 0 9 (ρ 1) 3 = ρ 23 := m23
  have m24 : γ 0 10 (9 * ρ 1) 8 = ρ 24 := m24
  have m25 : γ 0 10 (9 * ρ 1) 12 = ρ 25 := m25
  have m26 : γ 0 10 (9 * ρ 1) 14 = ρ 26 := m26
  have m27 : γ 0 0 0 7 = ρ 27 := m27
  have m28 : γ 2 2 0 5 = 0 := m28
  have m29 : γ 2 2 0 6 = 0 := m29
  have m30 : γ 2 2 0 7 = 2 := m30
  have m31 : γ 2 2 0 13 = 0 := m31
  have m32 : γ 2 2 0 16 = 0 := m32
  have m33 : γ 3 9 (ρ 1) 2 = ρ 28 := m33
  have m34 : γ 3 2 0 6 = ρ 29 := m34
  have m35 : γ 3 10 (9 * ρ 1) 8 = ρ 24 := m35
  have m36 : γ 3 10 (9 * ρ 1) 12 = ρ 25 := m36
  have m37 : γ 3 9 (ρ 1) 3 = ρ 30 := m37
  have m38 : γ 3 1 0 7 = ρ 31 := m38
  have m39 : γ 3 2 0 4 = ρ 8 := m39
  have m40 : γ 3 2 0 5 = ρ 32 := m40
  have m41 : γ 3 2 0 9 = ρ 33 := m41
  have m42 : γ 3 2 0 13 = ρ 34 := m42
  have m43 : γ 3 2 0 16 = ρ 35 := m43
  have m44 : γ 3 3 0 1 = ρ 36 := m44
  have m45 : γ 4 2 0 3 = 0 := m45
  have m46 : γ 0 0 0 6 = ρ 37 := m46
  have m47 : γ 0 8 (ρ 37) 1 = ρ 38 := m47
  have m48 : γ 0 8 (ρ 37) 2 = ρ 39 := m48
  have m49 : γ 5 8 (ρ 37) 1 = 0 := m49
  have m50 : γ 5 8 (ρ 37) 2 = 0 := m50
  have m51 : γ 7 8 (ρ 37) 1 = ρ 40 := m51
  have m52 : γ 7 6 0 0 = ρ 41 := m52
  have m53 : γ 7 4 0 7 = ρ 42 := m53
  have m54 : γ 7 5 0 3 = ρ 43 := m54
  have m55 : γ 7 6 0 8 = (-1) := m55
  have m56 : γ 7 6 0 9 = 2 := m56
  have m57 : γ 7 6 0 10 = 0 := m57
  have m58 : γ 7 6 0 11 = ρ 14 := m58
  have m59 : γ 7 6 0 13 = ρ 44 := m59
  obtain ⟨⟨⟨⟨⟨⟨⟨-, c1⟩, c2⟩, c3⟩, c4⟩, c5⟩, c6⟩, c7⟩ := hc
  have c1 : ∀ (G : Nat) (k j : Int), ¬ rMdP m0_ G j → γ 1 G k j = γ 0 G k j := c1
  have c2 : ∀ (G : Nat) (k j : Int), ¬ rMdP m74_ G j → γ 2 G k j = γ 1 G k j := c2
  have c3 : ∀ (G : Nat) (k j : Int), ¬ rMdP m107_ G j → γ 3 G k j = γ 2 G k j := c3
  have c4 : ∀ (G : Nat) (k j : Int), ¬ rMdP m75_ G j → γ 4 G k j = γ 3 G k j := c4
  have c5 : ∀ (G : Nat) (k j : Int), ¬ rMdP m110_ G j → γ 5 G k j = γ 4 G k j := c5
  have c6 : γ 6 = rUp (γ 5) 8 (ρ 37) 2 (ρ 32) := c6
  have c7 : ∀ (G : Nat) (k j : Int), ¬ rMdP m141_ G j → γ 7 G k j = γ 6 G k j := c7
  obtain ⟨l0, l1, l2, l3, l4, l5, -⟩ := hl
  have l0 : sn131 [ρ 0, ρ 1] (γ 0) 0 (ρ 1) (γ 1) := hS131 _ _ _ _ _ l0
  have l1 : sn111 [2, ρ 9, ρ 3, ρ 5, ρ 11, ρ 12] (γ 1) 0 0 (γ 2) := hS111 _ _ _ _ _ l1
  have l2 : sn159 [ρ 0, ρ 1, ρ 2, 0, ρ 4, 2, ρ 24, ρ 25, ρ 26, ρ 23, ρ 7, ρ 8, 0, ρ 10, 0, 0, ρ 13] (γ 2) 0 1 (γ 3) := hS159 _ _ _ _ _ l2
  have l3 : sn112 [ρ 4] (γ 3) 0 0 (γ 4) := hS112 _ _ _ _ _ l3
  have l4 : sn162 [ρ 37, ρ 38, ρ 39] (γ 4) 0 0 (γ 5) := hS162 _ _ _ _ _ l4
  show sr266 [ρ 0, ρ 1, ρ 2, ρ 3, ρ 4, ρ 5, ρ 6, ρ 7, ρ 8, ρ 9, ρ 10, ρ 11, ρ 12, ρ 13, ρ 14, ρ 15, ρ 16, ρ 17, ρ 18, ρ 19, ρ 20, ρ 21, ρ 22, ρ 23, ρ 24, ρ 25, ρ 26] (γ 0) 4 0 (γ 7)
  have h7 : γ 0 0 0 7 ≠ 0 := by rw [m27]; omega
  have e1 : γ 1 = γ 0 := congrArg (fun r : zR => r.2.2) l0
  have e2 : γ 2 = qUc 2 (γ 1) := congrArg (fun r : zR => r.2.2) l1
  have e3 : γ 3 = (fn159 [] (γ 2)).2.2 := congrArg (fun r : zR => r.2.2) l2
  have hb : hA1 (γ 0) = rUp (γ 3) 2 0 3 0 := by
    unfold hA1
    rw [if_pos h7, ← e1, ← e2, ← e3]
  show eqC (hA1 (γ 0)) (γ 7)
  have k1 : eqC (rUp (γ 3) 2 0 3 0) (γ 4) := by
    rw [f112 l3]
    exact eqC_3 eqC_rf
  rw [hb]
  exact eqC_tr k1 (eqC_tr (eqC_k (ms := m110_) (by decide +kernel) c5) (eqC_tr (eqC_up c6 (by decide)) (eqC_k (ms := m141_) (by decide +kernel) c7)))
theorem wn266_3 {S : Nat → zSpc} (hS111 : ∀ x g o v gz, S 111 x g o v gz → sn111 x g o v gz) (hS112 : ∀ x g o v gz, S 112 x g o v gz → sn112 x g o v gz) (hS131 : ∀ x g o v gz, S 131 x g o v gz → sn131 x g o v gz) (hS159 : ∀ x g o v gz, S 159 x g o v gz → sn159 x g o v gz) (hS162 : ∀ x g o v gz, S 162 x g o v gz → sn162 x g o v gz) {a : List Int} {g : rHp} : ∀ (ρ : Nat → Int) (γ : Nat → rHp), zO 27 S a g q266_3 ρ γ → zGl (fun _ _ _ => True) (sr266 a g) q266_3 ρ γ := by
  intro ρ γ h
  obtain ⟨ha, hg, hr, hf, hm, hc, hl⟩ := h
  have ha : a = [ρ 0, ρ 1, ρ 2, ρ 3, ρ 4, ρ 5, ρ 6, ρ 7, ρ 8, ρ 9, ρ 10, ρ 11, ρ 12, ρ 13, ρ 14, ρ 15, ρ 16, ρ 17, ρ 18, ρ 19, ρ 20, ρ 21, ρ 22, ρ 23, ρ 24, ρ 25, ρ 26] := ha
  subst ha
  subst hg
  obtain ⟨r0, r1, r2, r3, r4, r5, r6, r7, r8, r9, r10, r11, r12, r13, r14, r15, r16, r17, r18, r19, r20, r21, r22, r23, r24, r25, r26, r27, -⟩ := hr
  have r0 : (0 : Int) ≤ ρ 0 ∧ ρ 0 ≤ 60 := r0
  have r1 : (0 : Int) ≤ ρ 1 ∧ ρ 1 ≤ 60 := r1
  have r2 : (0 : Int) ≤ ρ 2 ∧ ρ 2 ≤ 8 := r2
  have r3 : (0 : Int) ≤ ρ 3 ∧ ρ 3 ≤ 2001 := r3
  have r4 : (0 : Int) ≤ ρ 4 ∧ ρ 4 ≤ 2000 := r4
  have r5 : (0 : Int) ≤ ρ 5 ∧ ρ 5 ≤ 2 := r5
  have r6 : ((-2147483648) : Int) ≤ ρ 6 ∧ ρ 6 ≤ 2147483647 := r6
  have r7 : (0 : Int) ≤ ρ 7 ∧ ρ 7 ≤ 20 := r7
  have r8 : ((-2147483648) : Int) ≤ ρ 8 ∧ ρ 8 ≤ 2147483647 := r8
  have r9 : ((-2147483648) : Int) ≤ ρ 9 ∧ ρ 9 ≤ 2147483647 := r9
  have r10 : ((-2147483648) : Int) ≤ ρ 10 ∧ ρ 10 ≤ 2147483647 := r10
  have r11 : (0 : Int) ≤ ρ 11 ∧ ρ 11 ≤ 8 := r11
  have r12 : (0 : Int) ≤ ρ 12 ∧ ρ 12 ≤ 32 := r12
  have r13 : (0 : Int) ≤ ρ 13 ∧ ρ 13 ≤ 5120 := r13
  have r14 : (0 : Int) ≤ ρ 14 ∧ ρ 14 ≤ 2000 := r14
  have r15 : (0 : Int) ≤ ρ 15 ∧ ρ 15 ≤ 2000 := r15
  have r16 : (0 : Int) ≤ ρ 16 ∧ ρ 16 ≤ 50001 := r16
  have r17 : ((-2147483648) : Int) ≤ ρ 17 ∧ ρ 17 ≤ 2147483647 := r17
  have r18 : (0 : Int) ≤ ρ 18 ∧ ρ 18 ≤ 2 := r18
  have r19 : ((-2147483648) : Int) ≤ ρ 19 ∧ ρ 19 ≤ 2147483647 := r19
  have r20 : (0 : Int) ≤ ρ 20 ∧ ρ 20 ≤ 2000 := r20
  have r21 : (0 : Int) ≤ ρ 21 ∧ ρ 21 ≤ 2000 := r21
  have r22 : ((-2147483648) : Int) ≤ ρ 22 ∧ ρ 22 ≤ 2147483647 := r22
  have r23 : (0 : Int) ≤ ρ 23 ∧ ρ 23 ≤ 8 := r23
  have r24 : ((-1) : Int) ≤ ρ 24 ∧ ρ 24 ≤ 19 := r24
  have r25 : (0 : Int) ≤ ρ 25 ∧ ρ 25 ≤ 4 := r25
  have r26 : ((-1) : Int) ≤ ρ 26 ∧ ρ 26 ≤ 7 := r26
  have r27 : (0 : Int) ≤ ρ 27 ∧ ρ 27 ≤ 0 := r27
  obtain ⟨m0, m1, m2, m3, m4, m5, m6, m7, m8, m9, m10, m11, m12, m13, m14, m15, m16, m17, m18, m19, m20, m21, m22, m23, m24, m25, m26, m27, m28, -⟩ := hm
  have m0 : γ 0 1 0 10 = ρ 0 := m0
  have m1 : γ 0 40 0 (ρ 0) = ρ 1 := m1
  have m2 : γ 0 9 (ρ 1) 2 = ρ 2 := m2
  have m3 : γ 0 2 0 6 = ρ 3 := m3
  have m4 : γ 0 2 0 3 = ρ 4 := m4
  have m5 : γ 0 2 0 7 = ρ 5 := m5
  have m6 : γ 0 0 0 8 = ρ 6 := m6
  have m7 : γ 0 1 0 7 = ρ 7 := m7
  have m8 : γ 0 2 0 4 = ρ 8 := m8
  have m9 : γ 0 2 0 5 = ρ 9 := m9
  have m10 : γ 0 2 0 9 = ρ 10 := m10
  have m11 : γ 0 2 0 13 = ρ 11 := m11
  have m12 : γ 0 2 0 16 = ρ 12 := m12
  have m13 : γ 0 3 0 1 = ρ 13 := m13
  have m14 : γ 0 4 0 7 = ρ 14 := m14
  have m15 : γ 0 5 0 3 = ρ 15 := m15
  have m16 : γ 0 6 0 0 = ρ 16 := m16
  have m17 : γ 0 6 0 8 = ρ 17 := m17
  have m18 : γ 0 6 0 9 = ρ 18 := m18
  have m19 : γ 0 6 0 10 = ρ 19 := m19
  have m20 : γ 0 6 0 11 = ρ 20 := m20
  have m21 : γ 0 6 0 12 = ρ 21 := m21
  have m22 : γ 0 6 0 13 = ρ 22 := m22
  have m23 : γ 0 9 (ρ 1) 3 = ρ 23 := m23
  have m24 : γ 0 10 (9 * ρ 1) 8 = ρ 24 := m24
  have m25 : γ 0 10 (9 * ρ 1) 12 = ρ 25 := m25
  have m26 : γ 0 10 (9 * ρ 1) 14 = ρ 26 := m26
  have m27 : γ 0 0 0 7 = ρ 27 := m27
  have m28 : γ 1 2 0 3 = 0 := m28
  obtain ⟨-, c1⟩ := hc
  have c1 : ∀ (G : Nat) (k j : Int), ¬ rMdP m75_ G j → γ 1 G k j = γ 0 G k j := c1
  obtain ⟨l0, -⟩ := hl
  have l0 : sn112 [ρ 4] (γ 0) 0 0 (γ 1) := hS112 _ _ _ _ _ l0
  show sr266 [ρ 0, ρ 1, ρ 2, ρ 3, ρ 4, ρ 5, ρ 6, ρ 7, ρ 8, ρ 9, ρ 10, ρ 11, ρ 12, ρ 13, ρ 14, ρ 15, ρ 16, ρ 17, ρ 18, ρ 19, ρ 20, ρ 21, ρ 22, ρ 23, ρ 24, ρ 25, ρ 26] (γ 0) 5 0 (γ 1)
  have h7 : ¬ γ 0 0 0 7 ≠ 0 := by rw [m27]; omega
  have hb : hA1 (γ 0) = γ 1 := by
    unfold hA1
    rw [if_neg h7]
    exact (f112 l0).symm
  show eqC (hA1 (γ 0)) (γ 1)
  rw [hb]
  exact eqC_rf
theorem un266 {S : Nat → zSpc} (hS111 : ∀ x g o v gz, S 111 x g o v gz → sn111 x g o v gz) (hS112 : ∀ x g o v gz, S 112 x g o v gz → sn112 x g o v gz) (hS131 : ∀ x g o v gz, S 131 x g o v gz → sn131 x g o v gz) (hS159 : ∀ x g o v gz, S 159 x g o v gz → sn159 x g o v gz) (hS162 : ∀ x g o v gz, S 162 x g o v gz → sn162 x g o v gz) : ∀ x g o v gz, zSem uW uT w266_.2.2.2.1 w266_.2.2.1.1.length S q266 (fun i => q266a.getD i []) (zNA a266_) x g o v gz → sr266 x g o v gz := by
  intro a g o v gz h
  exact zSem_all (l0 := q266) (las := q266a) (S := S) (J := (fun _ _ _ => True)) (P := sr266 a g) (fun _ => (show zAll _ [q266_0, q266_1, q266_2, q266_3] from (zAll_c (wn266_0 hS111 hS112 hS131 hS159 hS162) (zAll_c (wn266_1 hS111 hS112 hS131 hS159 hS162) (zAll_c (wn266_2 hS111 hS112 hS131 hS159 hS162) (zAll_c (wn266_3 hS111 hS112 hS131 hS159 hS162) zAll_n)))))) (fun _ => (show zAllI _ 0 [] from trivial)) h
theorem wn274_0 {S : Nat → zSpc} (hS221 : ∀ x g o v gz, S 221 x g o v gz → sr221 x g o v gz) {a : List Int} {g : rHp} : ∀ (ρ : Nat → Int) (γ : Nat → rHp), zO 11 S a g q274_0 ρ γ → zGl (fun _ _ _ => True) (sr274 a g) q274_0 ρ γ := by
  intro ρ γ h
  obtain ⟨ha, hg, hr, hf, hm, hc, hl⟩ := h
  have ha : a = [ρ 0, ρ 1, ρ 2, ρ 3, ρ 4, ρ 5, ρ 6, ρ 7, ρ 8, ρ 9, ρ 10] := ha
  subst ha
  subst hg
  obtain ⟨r0, r1, r2, r3, r4, r5, r6, r7, r8, r9, r10, r11, r12, r13, r14, r15, r16, r17, r18, r19, r20, r21, r22, r23, r24, r25, r26, r27, r28, r29, r30, r31, r32, r33, r34, r35, r36, r37, r38, r39, r40, r41, r42, r43, r44, -⟩ := hr
  have r0 : (0 : Int) ≤ ρ 0 ∧ ρ 0 ≤ 2000 := r0
  have r1 : (0 : Int) ≤ ρ 1 ∧ ρ 1 ≤ 20 := r1
  have r2 : (0 : Int) ≤ ρ 2 ∧ ρ 2 ≤ 60 := r2
  have r3 : ((-2147483648) : Int) ≤ ρ 3 ∧ ρ 3 ≤ 2147483647 := r3
  have r4 : ((-2147483648) : Int) ≤ ρ 4 ∧ ρ 4 ≤ 2147483647 := r4
  have r5 : (0 : Int) ≤ ρ 5 ∧ ρ 5 ≤ 2001 := r5
  have r6 : (0 : Int) ≤ ρ 6 ∧ ρ 6 ≤ 2 := r6
  have r7 : ((-2147483648) : Int) ≤ ρ 7 ∧ ρ 7 ≤ 2147483647 := r7
  have r8 : (0 : Int) ≤ ρ 8 ∧ ρ 8 ≤ 8 := r8
  have r9 : (0 : Int) ≤ ρ 9 ∧ ρ 9 ≤ 32 := r9
  have r10 : (0 : Int) ≤ ρ 10 ∧ ρ 10 ≤ 5120 := r10
  have r11 : (0 : Int) ≤ ρ 11 ∧ ρ 11 ≤ 60 := r11
  have r12 : (0 : Int) ≤ ρ 12 ∧ ρ 12 ≤ 8 := r12
  have r13 : (0 : Int) ≤ ρ 13 ∧ ρ 13 ≤ 8 := r13
  have r14 : (0 : Int) ≤ ρ 14 ∧ ρ 14 ≤ 8 := r14
  have r15 : (0 : Int) ≤ ρ 15 ∧ ρ 15 ≤ 4 := r15
  have r16 : ((-2147483648) : Int) ≤ ρ 16 ∧ ρ 16 ≤ 2147483647 := r16
  have r17 : ((-1) : Int) ≤ ρ 17 ∧ ρ 17 ≤ 19 := r17
  have r18 : ((-1) : Int) ≤ ρ 18 ∧ ρ 18 ≤ 3 := r18
  have r19 : (0 : Int) ≤ ρ 19 ∧ ρ 19 ≤ 4 := r19
  have r20 : (0 : Int) ≤ ρ 20 ∧ ρ 20 ≤ 3 := r20
  have r21 : ((-1) : Int) ≤ ρ 21 ∧ ρ 21 ≤ 7 := r21
  have r22 : ((-2147483648) : Int) ≤ ρ 22 ∧ ρ 22 ≤ 2147483647 := r22
  have r23 : ((-2147483648) : Int) ≤ ρ 23 ∧ ρ 23 ≤ 2147483647 := r23
  have r24 : (0 : Int) ≤ ρ 24 ∧ ρ 24 ≤ 0 := r24
  have r25 : (0 : Int) ≤ ρ 25 ∧ ρ 25 ≤ 2000 := r25
  have r26 : (0 : Int) ≤ ρ 26 ∧ ρ 26 ≤ 0 := r26
  have r27 : (1 : Int) ≤ ρ 27 ∧ ρ 27 ≤ 1 := r27
  have r28 : (0 : Int) ≤ ρ 28 ∧ ρ 28 ≤ 20 := r28
  have r29 : ((-2147483648) : Int) ≤ ρ 29 ∧ ρ 29 ≤ 2147483647 := r29
  have r30 : ((-2147483648) : Int) ≤ ρ 30 ∧ ρ 30 ≤ 2147483647 := r30
  have r31 : ((-2147483648) : Int) ≤ ρ 31 ∧ ρ 31 ≤ 2147483647 := r31
  have r32 : (0 : Int) ≤ ρ 32 ∧ ρ 32 ≤ 8 := r32
  have r33 : (0 : Int) ≤ ρ 33 ∧ ρ 33 ≤ 32 := r33
  have r34 : (0 : Int) ≤ ρ 34 ∧ ρ 34 ≤ 5120 := r34
  have r35 : (0 : Int) ≤ ρ 35 ∧ ρ 35 ≤ 0 := r35
  have r36 : (0 : Int) ≤ ρ 36 ∧ ρ 36 ≤ 8 := r36
  have r37 : (0 : Int) ≤ ρ 37 ∧ ρ 37 ≤ 4 := r37
  have r38 : ((-2147483648) : Int) ≤ ρ 38 ∧ ρ 38 ≤ 2147483647 := r38
  have r39 : ((-1) : Int) ≤ ρ 39 ∧ ρ 39 ≤ 19 := r39
  have r40 : ((-1) : Int) ≤ ρ 40 ∧ ρ 40 ≤ 3 := r40
  have r41 : (0 : Int) ≤ ρ 41 ∧ ρ 41 ≤ 4 := r41
  have r42 : (0 : Int) ≤ ρ 42 ∧ ρ 42 ≤ 3 := r42
  have r43 : ((-1) : Int) ≤ ρ 43 ∧ ρ 43 ≤ 7 := r43
  have r44 : ((-2147483648) : Int) ≤ ρ 44 ∧ ρ 44 ≤ 2147483647 := r44
  obtain ⟨f0, f1, f2, -⟩ := hf
  have f0 : (0 : Int) ≤ ρ 28 + -ρ 1 := f0
  have f1 : (0 : Int) ≤ ρ 34 + -ρ 10 := f1
  have f2 : (0 : Int) ≤ -ρ 36 + ρ 14 := f2
  obtain ⟨m0, m1, m2, m3, m4, m5, m6, m7, m8, m9, m10, m11, m12, m13, m14, m15, m16, m17, m18, m19, m20, m21, m22, m23, m24, m25, m26, m27, m28, m29, m30, m31, m32, m33, m34, m35, m36, m37, m38, m39, m40, m41, m42, m43, -⟩ := hm
  have m0 : γ 0 2 0 3 = ρ 0 := m0
  have m1 : γ 0 1 0 7 = ρ 1 := m1
  have m2 : γ 0 1 0 10 = ρ 2 := m2
  have m3 : γ 0 2 0 4 = ρ 3 := m3
  have m4 : γ 0 2 0 5 = ρ 4 := m4
  have m5 : γ 0 2 0 6 = ρ 5 := m5
  have m6 : γ 0 2 0 7 = ρ 6 := m6
  have m7 : γ 0 2 0 9 = ρ 7 := m7
  have m8 : γ 0 2 0 13 = ρ 8 := m8
  have m9 : γ 0 2 0 16 = ρ 9 := m9
  have m10 : γ 0 3 0 1 = ρ 10 := m10
  have m11 : γ 0 40 0 (ρ 2) = ρ 11 := m11
  have m12 : γ 0 9 (ρ 11) 2 = ρ 12 := m12
  have m13 : γ 0 9 (ρ 11) 3 = ρ 13 := m13
  have m14 : γ 0 10 (9 * ρ 11) 4 = ρ 14 := m14
  have m15 : γ 0 10 (9 * ρ 11) 5 = ρ 15 := m15
  have m16 : γ 0 10 (9 * ρ 11) 7 = ρ 16 := m16
  have m17 : γ 0 10 (9 * ρ 11) 8 = ρ 17 := m17
  have m18 : γ 0 10 (9 * ρ 11) 9 = ρ 18 := m18
  have m19 : γ 0 10 (9 * ρ 11) 12 = ρ 19 := m19
  have m20 : γ 0 10 (9 * ρ 11) 13 = ρ 20 := m20
  have m21 : γ 0 10 (9 * ρ 11) 14 = ρ 21 := m21
  have m22 : γ 0 10 (9 * ρ 11) 15 = ρ 22 := m22
  have m23 : γ 1 9 (ρ 11) 2 = ρ 24 := m23
  have m24 : γ 1 2 0 6 = ρ 25 := m24
  have m25 : γ 1 2 0 3 = ρ 26 := m25
  have m26 : γ 1 2 0 7 = ρ 27 := m26
  have m27 : γ 1 1 0 7 = ρ 28 := m27
  have m28 : γ 1 2 0 4 = ρ 29 := m28
  have m29 : γ 1 2 0 5 = ρ 30 := m29
  have m30 : γ 1 2 0 9 = ρ 31 := m30
  have m31 : γ 1 2 0 13 = ρ 32 := m31
  have m32 : γ 1 2 0 16 = ρ 33 := m32
  have m33 : γ 1 3 0 1 = ρ 34 := m33
  have m34 : γ 1 9 (ρ 11) 3 = ρ 35 := m34
  have m35 : γ 1 10 (9 * ρ 11) 4 = ρ 36 := m35
  have m36 : γ 1 10 (9 * ρ 11) 5 = ρ 37 := m36
  have m37 : γ 1 10 (9 * ρ 11) 7 = ρ 38 := m37
  have m38 : γ 1 10 (9 * ρ 11) 8 = ρ 39 := m38
  have m39 : γ 1 10 (9 * ρ 11) 9 = ρ 40 := m39
  have m40 : γ 1 10 (9 * ρ 11) 12 = ρ 41 := m40
  have m41 : γ 1 10 (9 * ρ 11) 13 = ρ 42 := m41
  have m42 : γ 1 10 (9 * ρ 11) 14 = ρ 43 := m42
  have m43 : γ 1 10 (9 * ρ 11) 15 = ρ 44 := m43
  obtain ⟨⟨-, c1⟩, c2⟩ := hc
  have c1 : ∀ (G : Nat) (k j : Int), ¬ rMdP m130_ G j → γ 1 G k j = γ 0 G k j := c1
  have c2 : γ 2 = rUp (γ 1) 112 0 0 (ρ 23) := c2
  obtain ⟨l0, -⟩ := hl
  have l0 : sr221 [ρ 2, ρ 11, ρ 12, ρ 5, ρ 0, ρ 6, ρ 1, ρ 3, ρ 4, ρ 7, ρ 8, ρ 9, ρ 10, ρ 13, ρ 14, ρ 15, ρ 16, ρ 17, ρ 18, ρ 19, ρ 20, ρ 21, ρ 22] (γ 0) 0 (ρ 23) (γ 1) := hS221 _ _ _ _ _ l0
  show sr274 [ρ 0, ρ 1, ρ 2, ρ 3, ρ 4, ρ 5, ρ 6, ρ 7, ρ 8, ρ 9, ρ 10] (γ 0) 0 0 (γ 2)
  exact eqC_tr l0 (eqC_up c2 (by decide))
theorem wn274_1 {S : Nat → zSpc} (hS221 : ∀ x g o v gz, S 221 x g o v gz → sr221 x g o v gz) {a : List Int} {g : rHp} : ∀ (ρ : Nat → Int) (γ : Nat → rHp), zO 11 S a g q274_1 ρ γ → zGl (fun _ _ _ => True) (sr274 a g) q274_1 ρ γ := by
  intro ρ γ h
  obtain ⟨ha, hg, hr, hf, hm, hc, hl⟩ := h
  have ha : a = [ρ 0, ρ 1, ρ 2, ρ 3, ρ 4, ρ 5, ρ 6, ρ 7, ρ 8, ρ 9, ρ 10] := ha
  subst ha
  subst hg
  obtain ⟨r0, r1, r2, r3, r4, r5, r6, r7, r8, r9, r10, r11, r12, r13, r14, r15, r16, r17, r18, r19, r20, r21, r22, -⟩ := hr
  have r0 : (0 : Int) ≤ ρ 0 ∧ ρ 0 ≤ 2000 := r0
  have r1 : (0 : Int) ≤ ρ 1 ∧ ρ 1 ≤ 20 := r1
  have r2 : (0 : Int) ≤ ρ 2 ∧ ρ 2 ≤ 60 := r2
  have r3 : ((-2147483648) : Int) ≤ ρ 3 ∧ ρ 3 ≤ 2147483647 := r3
  have r4 : ((-2147483648) : Int) ≤ ρ 4 ∧ ρ 4 ≤ 2147483647 := r4
  have r5 : (0 : Int) ≤ ρ 5 ∧ ρ 5 ≤ 2001 := r5
  have r6 : (0 : Int) ≤ ρ 6 ∧ ρ 6 ≤ 2 := r6
  have r7 : ((-2147483648) : Int) ≤ ρ 7 ∧ ρ 7 ≤ 2147483647 := r7
  have r8 : (0 : Int) ≤ ρ 8 ∧ ρ 8 ≤ 8 := r8
  have r9 : (0 : Int) ≤ ρ 9 ∧ ρ 9 ≤ 32 := r9
  have r10 : (0 : Int) ≤ ρ 10 ∧ ρ 10 ≤ 5120 := r10
  have r11 : (0 : Int) ≤ ρ 11 ∧ ρ 11 ≤ 60 := r11
  have r12 : (0 : Int) ≤ ρ 12 ∧ ρ 12 ≤ 8 := r12
  have r13 : (0 : Int) ≤ ρ 13 ∧ ρ 13 ≤ 8 := r13
  have r14 : (0 : Int) ≤ ρ 14 ∧ ρ 14 ≤ 8 := r14
  have r15 : (0 : Int) ≤ ρ 15 ∧ ρ 15 ≤ 4 := r15
  have r16 : ((-2147483648) : Int) ≤ ρ 16 ∧ ρ 16 ≤ 2147483647 := r16
  have r17 : ((-1) : Int) ≤ ρ 17 ∧ ρ 17 ≤ 19 := r17
  have r18 : ((-1) : Int) ≤ ρ 18 ∧ ρ 18 ≤ 3 := r18
  have r19 : (0 : Int) ≤ ρ 19 ∧ ρ 19 ≤ 4 := r19
  have r20 : (0 : Int) ≤ ρ 20 ∧ ρ 20 ≤ 3 := r20
  have r21 : ((-1) : Int) ≤ ρ 21 ∧ ρ 21 ≤ 7 := r21
  have r22 : ((-2147483648) : Int) ≤ ρ 22 ∧ ρ 22 ≤ 2147483647 := r22
  obtain ⟨m0, m1, m2, m3, m4, m5, m6, m7, m8, m9, m10, m11, m12, m13, m14, m15, m16, m17, m18, m19, m20, m21, m22, m23, m24, m25, m26, m27, m28, m29, m30, m31, m32, m33, m34, m35, m36, m37, m38, m39, m40, m41, m42, m43, -⟩ := hm
  have m0 : γ 0 2 0 3 = ρ 0 := m0
  have m1 : γ 0 1 0 7 = ρ 1 := m1
  have m2 : γ 0 1 0 10 = ρ 2 := m2
  have m3 : γ 0 2 0 4 = ρ 3 := m3
  have m4 : γ 0 2 0 5 = ρ 4 := m4
  have m5 : γ 0 2 0 6 = ρ 5 := m5
  have m6 : γ 0 2 0 7 = ρ 6 := m6
  have m7 : γ 0 2 0 9 = ρ 7 := m7
  have m8 : γ 0 2 0 13 = ρ 8 := m8
  have m9 : γ 0 2 0 16 = ρ 9 := m9
  have m10 : γ 0 3 0 1 = ρ 10 := m10
  have m11 : γ 0 40 0 (ρ 2) = ρ 11 := m11
  have m12 : γ 0 9 (ρ 11) 2 = ρ 12 := m12
  have m13 : γ 0 9 (ρ 11) 3 = ρ 13 := m13
  have m14 : γ 0 10 (9 * ρ 11) 4 = ρ 14 := m14
  have m15 : γ 0 10 (9 * ρ 11) 5 = ρ 15 := m15
  have m16 : γ 0 10 (9 * ρ 11) 7 = ρ 16 := m16
  have m17 : γ 0 10 (9 * ρ 11) 8 = ρ 17 := m17
  have m18 : γ 0 10 (9 * ρ 11) 9 = ρ 18 := m18
  have m19 : γ 0 10 (9 * ρ 11) 12 = ρ 19 := m19
  have m20 : γ 0 10 (9 * ρ 11) 13 = ρ 20 := m20
  have m21 : γ 0 10 (9 * ρ 11) 14 = ρ 21 := m21
  have m22 : γ 0 10 (9 * ρ 11) 15 = ρ 22 := m22
  have m23 : γ 1 9 (ρ 11) 2 = ρ 12 := m23
  have m24 : γ 1 2 0 6 = ρ 5 := m24
  have m25 : γ 1 2 0 3 = 0 := m25
  have m26 : γ 1 2 0 7 = ρ 6 := m26
  have m27 : γ 1 1 0 7 = ρ 1 := m27
  have m28 : γ 1 2 0 4 = ρ 3 := m28
  have m29 : γ 1 2 0 5 = ρ 4 := m29
  have m30 : γ 1 2 0 9 = ρ 7 := m30
  have m31 : γ 1 2 0 13 = ρ 8 := m31
  have m32 : γ 1 2 0 16 = ρ 9 := m32
  have m33 : γ 1 3 0 1 = ρ 10 := m33
  have m34 : γ 1 9 (ρ 11) 3 = ρ 13 := m34
  have m35 : γ 1 10 (9 * ρ 11) 4 = ρ 14 := m35
  have m36 : γ 1 10 (9 * ρ 11) 5 = ρ 15 := m36
  have m37 : γ 1 10 (9 * ρ 11) 7 = ρ 16 := m37
  have m38 : γ 1 10 (9 * ρ 11) 8 = ρ 17 := m38
  have m39 : γ 1 10 (9 * ρ 11) 9 = ρ 18 := m39
  have m40 : γ 1 10 (9 * ρ 11) 12 = ρ 19 := m40
  have m41 : γ 1 10 (9 * ρ 11) 13 = ρ 20 := m41
  have m42 : γ 1 10 (9 * ρ 11) 14 = ρ 21 := m42
  have m43 : γ 1 10 (9 * ρ 11) 15 = ρ 22 := m43
  obtain ⟨-, c1⟩ := hc
  have c1 : ∀ (G : Nat) (k j : Int), ¬ rMdP m130_ G j → γ 1 G k j = γ 0 G k j := c1
  obtain ⟨l0, -⟩ := hl
  have l0 : sr221 [ρ 2, ρ 11, ρ 12, ρ 5, ρ 0, ρ 6, ρ 1, ρ 3, ρ 4, ρ 7, ρ 8, ρ 9, ρ 10, ρ 13, ρ 14, ρ 15, ρ 16, ρ 17, ρ 18, ρ 19, ρ 20, ρ 21, ρ 22] (γ 0) 5 0 (γ 1) := hS221 _ _ _ _ _ l0
  show sr274 [ρ 0, ρ 1, ρ 2, ρ 3, ρ 4, ρ 5, ρ 6, ρ 7, ρ 8, ρ 9, ρ 10] (γ 0) 0 1 (γ 1)
  exact eqC_tr l0 eqC_rf
theorem un274 {S : Nat → zSpc} (hS221 : ∀ x g o v gz, S 221 x g o v gz → sr221 x g o v gz) : ∀ x g o v gz, zSem uW uT w274_.2.2.2.1 w274_.2.2.1.1.length S q274 (fun i => q274a.getD i []) (zNA a274_) x g o v gz → sr274 x g o v gz := by
  intro a g o v gz h
  exact zSem_all (l0 := q274) (las := q274a) (S := S) (J := (fun _ _ _ => True)) (P := sr274 a g) (fun _ => (show zAll _ [q274_0, q274_1] from (zAll_c (wn274_0 hS221) (zAll_c (wn274_1 hS221) zAll_n)))) (fun _ => (show zAllI _ 0 [] from trivial)) h
theorem wn275_0 {S : Nat → zSpc} (hS266 : ∀ x g o v gz, S 266 x g o v gz → sr266 x g o v gz) {a : List Int} {g : rHp} : ∀ (ρ : Nat → Int) (γ : Nat → rHp), zO 21 S a g q275_0 ρ γ → zGl (fun _ _ _ => True) (sr275 a g) q275_0 ρ γ := by
  intro ρ γ h
  obtain ⟨ha, hg, hr, hf, hm, hc, hl⟩ := h
  have ha : a = [ρ 0, ρ 1, ρ 2, ρ 3, ρ 4, ρ 5, ρ 6, ρ 7, ρ 8, ρ 9, ρ 10, ρ 11, ρ 12, ρ 13, ρ 14, ρ 15, ρ 16, ρ 17, ρ 18, ρ 19, ρ 20] := ha
  subst ha
  subst hg
  obtain ⟨r0, r1, r2, r3, r4, r5, r6, r7, r8, r9, r10, r11, r12, r13, r14, r15, r16, r17, r18, r19, r20, r21, r22, r23, r24, r25, r26, r27, r28, r29, r30, r31, r32, r33, r34, r35, r36, r37, r38, r39, r40, r41, r42, r43, r44, r45, r46, -⟩ := hr
  have r0 : (0 : Int) ≤ ρ 0 ∧ ρ 0 ≤ 2000 := r0
  have r1 : ((-2147483648) : Int) ≤ ρ 1 ∧ ρ 1 ≤ 2147483647 := r1
  have r2 : (0 : Int) ≤ ρ 2 ∧ ρ 2 ≤ 20 := r2
  have r3 : (0 : Int) ≤ ρ 3 ∧ ρ 3 ≤ 60 := r3
  have r4 : ((-2147483648) : Int) ≤ ρ 4 ∧ ρ 4 ≤ 2147483647 := r4
  have r5 : ((-2147483648) : Int) ≤ ρ 5 ∧ ρ 5 ≤ 2147483647 := r5
  have r6 : (0 : Int) ≤ ρ 6 ∧ ρ 6 ≤ 2001 := r6
  have r7 : (0 : Int) ≤ ρ 7 ∧ ρ 7 ≤ 2 := r7
  have r8 : ((-2147483648) : Int) ≤ ρ 8 ∧ ρ 8 ≤ 2147483647 := r8
  have r9 : (0 : Int) ≤ ρ 9 ∧ ρ 9 ≤ 8 := r9
  have r10 : (0 : Int) ≤ ρ 10 ∧ ρ 10 ≤ 32 := r10
  have r11 : (0 : Int) ≤ ρ 11 ∧ ρ 11 ≤ 5120 := r11
  have r12 : (0 : Int) ≤ ρ 12 ∧ ρ 12 ≤ 2000 := r12
  have r13 : (0 : Int) ≤ ρ 13 ∧ ρ 13 ≤ 2000 := r13
  have r14 : (0 : Int) ≤ ρ 14 ∧ ρ 14 ≤ 50001 := r14
  have r15 : ((-2147483648) : Int) ≤ ρ 15 ∧ ρ 15 ≤ 2147483647 := r15
  have r16 : (0 : Int) ≤ ρ 16 ∧ ρ 16 ≤ 2 := r16
  have r17 : ((-2147483648) : Int) ≤ ρ 17 ∧ ρ 17 ≤ 2147483647 := r17
  have r18 : (0 : Int) ≤ ρ 18 ∧ ρ 18 ≤ 2000 := r18
  have r19 : (0 : Int) ≤ ρ 19 ∧ ρ 19 ≤ 2000 := r19
  have r20 : ((-2147483648) : Int) ≤ ρ 20 ∧ ρ 20 ≤ 2147483647 := r20
  have r21 : (0 : Int) ≤ ρ 21 ∧ ρ 21 ≤ 60 := r21
  have r22 : (0 : Int) ≤ ρ 22 ∧ ρ 22 ≤ 8 := r22
  have r23 : (0 : Int) ≤ ρ 23 ∧ ρ 23 ≤ 8 := r23
  have r24 : ((-1) : Int) ≤ ρ 24 ∧ ρ 24 ≤ 19 := r24
  have r25 : (0 : Int) ≤ ρ 25 ∧ ρ 25 ≤ 4 := r25
  have r26 : ((-1) : Int) ≤ ρ 26 ∧ ρ 26 ≤ 7 := r26
  have r27 : ((-2147483648) : Int) ≤ ρ 27 ∧ ρ 27 ≤ 2147483647 := r27
  have r28 : (0 : Int) ≤ ρ 28 ∧ ρ 28 ≤ 8 := r28
  have r29 : (0 : Int) ≤ ρ 29 ∧ ρ 29 ≤ 2001 := r29
  have r30 : ((-2147483648) : Int) ≤ ρ 30 ∧ ρ 30 ≤ 2147483647 := r30
  have r31 : (0 : Int) ≤ ρ 31 ∧ ρ 31 ≤ 20 := r31
  have r32 : ((-2147483648) : Int) ≤ ρ 32 ∧ ρ 32 ≤ 2147483647 := r32
  have r33 : ((-2147483648) : Int) ≤ ρ 33 ∧ ρ 33 ≤ 2147483647 := r33
  have r34 : ((-2147483648) : Int) ≤ ρ 34 ∧ ρ 34 ≤ 2147483647 := r34
  have r35 : (0 : Int) ≤ ρ 35 ∧ ρ 35 ≤ 8 := r35
  have r36 : (0 : Int) ≤ ρ 36 ∧ ρ 36 ≤ 32 := r36
  have r37 : (0 : Int) ≤ ρ 37 ∧ ρ 37 ≤ 5120 := r37
  have r38 : (0 : Int) ≤ ρ 38 ∧ ρ 38 ≤ 2000 := r38
  have r39 : (0 : Int) ≤ ρ 39 ∧ ρ 39 ≤ 2000 := r39
  have r40 : (0 : Int) ≤ ρ 40 ∧ ρ 40 ≤ 50001 := r40
  have r41 : ((-2147483648) : Int) ≤ ρ 41 ∧ ρ 41 ≤ 2147483647 := r41
  have r42 : (0 : Int) ≤ ρ 42 ∧ ρ 42 ≤ 2 := r42
  have r43 : ((-2147483648) : Int) ≤ ρ 43 ∧ ρ 43 ≤ 2147483647 := r43
  have r44 : (0 : Int) ≤ ρ 44 ∧ ρ 44 ≤ 2000 := r44
  have r45 : ((-2147483648) : Int) ≤ ρ 45 ∧ ρ 45 ≤ 2147483647 := r45
  have r46 : (0 : Int) ≤ ρ 46 ∧ ρ 46 ≤ 8 := r46
  obtain ⟨f0, f1, f2, f3, f4, f5, f6, f7, -⟩ := hf
  have f0 : (0 : Int) ≤ -ρ 46 + ρ 28 := f0
  have f1 : (0 : Int) ≤ ρ 29 + -ρ 28 := f1
  have f2 : (0 : Int) ≤ ρ 31 + -ρ 2 := f2
  have f3 : (0 : Int) ≤ ρ 37 + -ρ 11 := f3
  have f4 : (0 : Int) ≤ ρ 38 + -ρ 12 := f4
  have f5 : (0 : Int) ≤ ρ 39 + -ρ 13 := f5
  have f6 : (0 : Int) ≤ ρ 42 + -ρ 16 := f6
  have f7 : (0 : Int) ≤ -ρ 28 + ρ 0 := f7
  obtain ⟨m0, m1, m2, m3, m4, m5, m6, m7, m8, m9, m10, m11, m12, m13, m14, m15, m16, m17, m18, m19, m20, m21, m22, m23, m24, m25, m26, m27, m28, m29, m30, m31, m32, m33, m34, m35, m36, m37, m38, m39, m40, m41, m42, m43, m44, m45, m46, m47, m48, m49, -⟩ := hm
  have m0 : γ 0 2 0 3 = ρ 0 := m0
  have m1 : γ 0 0 0 8 = ρ 1 := m1
  have m2 : γ 0 1 0 7 = ρ 2 := m2
  have m3 : γ 0 1 0 10 = ρ 3 := m3
  have m4 : γ 0 2 0 4 = ρ 4 := m4
  have m5 : γ 0 2 0 5 = ρ 5 := m5
  have m6 : γ 0 2 0 6 = ρ 6 := m6
  have m7 : γ 0 2 0 7 = ρ 7 := m7
  have m8 : γ 0 2 0 9 = ρ 8 := m8
  have m9 : γ 0 2 0 13 = ρ 9 := m9
  have m10 : γ 0 2 0 16 = ρ 10 := m10
  have m11 : γ 0 3 0 1 = ρ 11 := m11
  have m12 : γ 0 4 0 7 = ρ 12 := m12
  have m13 : γ 0 5 0 3 = ρ 13 := m13
  have m14 : γ 0 6 0 0 = ρ 14 := m14
  have m15 : γ 0 6 0 8 = ρ 15 := m15
  have m16 : γ 0 6 0 9 = ρ 16 := m16
  have m17 : γ 0 6 0 10 = ρ 17 := m17
  have m18 : γ 0 6 0 11 = ρ 18 := m18
  have m19 : γ 0 6 0 12 = ρ 19 := m19
  have m20 : γ 0 6 0 13 = ρ 20 := m20
  have m21 : γ 0 40 0 (ρ 3) = ρ 21 := m21
  have m22 : γ 0 9 (ρ 21) 2 = ρ 22 := m22
  have m23 : γ 0 9 (ρ 21) 3 = ρ 23 := m23
  have m24 : γ 0 10 (9 * ρ 21) 8 = ρ 24 := m24
  have m25 : γ 0 10 (9 * ρ 21) 12 = ρ 25 := m25
  have m26 : γ 0 10 (9 * ρ 21) 14 = ρ 26 := m26
  have m27 : γ 1 9 (ρ 21) 2 = ρ 28 := m27
  have m28 : γ 1 2 0 6 = ρ 29 := m28
  have m29 : γ 1 2 0 3 = 0 := m29
  have m30 : γ 1 2 0 7 = 2 := m30
  have m31 : γ 1 0 0 8 = ρ 30 := m31
  have m32 : γ 1 1 0 7 = ρ 31 := m32
  have m33 : γ 1 2 0 4 = ρ 32 := m33
  have m34 : γ 1 2 0 5 = ρ 33 := m34
  have m35 : γ 1 2 0 9 = ρ 34 := m35
  have m36 : γ 1 2 0 13 = ρ 35 := m36
  have m37 : γ 1 2 0 16 = ρ 36 := m37
  have m38 : γ 1 3 0 1 = ρ 37 := m38
  have m39 : γ 1 4 0 7 = ρ 38 := m39
  have m40 : γ 1 5 0 3 = ρ 39 := m40
  have m41 : γ 1 6 0 0 = ρ 40 := m41
  have m42 : γ 1 6 0 8 = ρ 41 := m42
  have m43 : γ 1 6 0 9 = ρ 42 := m43
  have m44 : γ 1 6 0 10 = ρ 43 := m44
  have m45 : γ 1 6 0 11 = ρ 44 := m45
  have m46 : γ 1 6 0 13 = ρ 45 := m46
  have m47 : γ 1 9 (ρ 21) 3 = ρ 46 := m47
  have m48 : γ 1 10 (9 * ρ 21) 8 = ρ 24 := m48
  have m49 : γ 1 10 (9 * ρ 21) 12 = ρ 25 := m49
  obtain ⟨⟨-, c1⟩, c2⟩ := hc
  have c1 : ∀ (G : Nat) (k j : Int), ¬ rMdP m146_ G j → γ 1 G k j = γ 0 G k j := c1
  have c2 : γ 2 = rUp (γ 1) 112 0 0 (ρ 27) := c2
  obtain ⟨l0, -⟩ := hl
  have l0 : sr266 [ρ 3, ρ 21, ρ 22, ρ 6, ρ 0, ρ 7, ρ 1, ρ 2, ρ 4, ρ 5, ρ 8, ρ 9, ρ 10, ρ 11, ρ 12, ρ 13, ρ 14, ρ 15, ρ 16, ρ 17, ρ 18, ρ 19, ρ 20, ρ 23, ρ 24, ρ 25, ρ 26] (γ 0) 0 (ρ 27) (γ 1) := hS266 _ _ _ _ _ l0
  show sr275 [ρ 0, ρ 1, ρ 2, ρ 3, ρ 4, ρ 5, ρ 6, ρ 7, ρ 8, ρ 9, ρ 10, ρ 11, ρ 12, ρ 13, ρ 14, ρ 15, ρ 16, ρ 17, ρ 18, ρ 19, ρ 20] (γ 0) 0 0 (γ 2)
  exact eqC_tr l0 (eqC_up c2 (by decide))
theorem wn275_1 {S : Nat → zSpc} (hS266 : ∀ x g o v gz, S 266 x g o v gz → sr266 x g o v gz) {a : List Int} {g : rHp} : ∀ (ρ : Nat → Int) (γ : Nat → rHp), zO 21 S a g q275_1 ρ γ → zGl (fun _ _ _ => True) (sr275 a g) q275_1 ρ γ := by
  intro ρ γ h
  obtain ⟨ha, hg, hr, hf, hm, hc, hl⟩ := h
  have ha : a = [ρ 0, ρ 1, ρ 2, ρ 3, ρ 4, ρ 5, ρ 6, ρ 7, ρ 8, ρ 9, ρ 10, ρ 11, ρ 12, ρ 13, ρ 14, ρ 15, ρ 16, ρ 17, ρ 18, ρ 19, ρ 20] := ha
  subst ha
  subst hg
  obtain ⟨r0, r1, r2, r3, r4, r5, r6, r7, r8, r9, r10, r11, r12, r13, r14, r15, r16, r17, r18, r19, r20, r21, r22, r23, r24, r25, r26, r27, r28, r29, r30, r31, r32, r33, r34, r35, r36, r37, r38, r39, -⟩ := hr
  have r0 : (1 : Int) ≤ ρ 0 ∧ ρ 0 ≤ 2000 := r0
  have r1 : ((-2147483648) : Int) ≤ ρ 1 ∧ ρ 1 ≤ 2147483647 := r1
  have r2 : (0 : Int) ≤ ρ 2 ∧ ρ 2 ≤ 20 := r2
  have r3 : (0 : Int) ≤ ρ 3 ∧ ρ 3 ≤ 60 := r3
  have r4 : ((-2147483648) : Int) ≤ ρ 4 ∧ ρ 4 ≤ 2147483647 := r4
  have r5 : ((-2147483648) : Int) ≤ ρ 5 ∧ ρ 5 ≤ 2147483647 := r5
  have r6 : (0 : Int) ≤ ρ 6 ∧ ρ 6 ≤ 2001 := r6
  have r7 : (0 : Int) ≤ ρ 7 ∧ ρ 7 ≤ 2 := r7
  have r8 : ((-2147483648) : Int) ≤ ρ 8 ∧ ρ 8 ≤ 2147483647 := r8
  have r9 : (0 : Int) ≤ ρ 9 ∧ ρ 9 ≤ 8 := r9
  have r10 : (0 : Int) ≤ ρ 10 ∧ ρ 10 ≤ 32 := r10
  have r11 : (0 : Int) ≤ ρ 11 ∧ ρ 11 ≤ 5120 := r11
  have r12 : (0 : Int) ≤ ρ 12 ∧ ρ 12 ≤ 2000 := r12
  have r13 : (0 : Int) ≤ ρ 13 ∧ ρ 13 ≤ 2000 := r13
  have r14 : (0 : Int) ≤ ρ 14 ∧ ρ 14 ≤ 50001 := r14
  have r15 : ((-2147483648) : Int) ≤ ρ 15 ∧ ρ 15 ≤ 2147483647 := r15
  have r16 : (0 : Int) ≤ ρ 16 ∧ ρ 16 ≤ 2 := r16
  have r17 : ((-2147483648) : Int) ≤ ρ 17 ∧ ρ 17 ≤ 2147483647 := r17
  have r18 : (0 : Int) ≤ ρ 18 ∧ ρ 18 ≤ 2000 := r18
  have r19 : (0 : Int) ≤ ρ 19 ∧ ρ 19 ≤ 2000 := r19
  have r20 : ((-2147483648) : Int) ≤ ρ 20 ∧ ρ 20 ≤ 2147483647 := r20
  have r21 : (0 : Int) ≤ ρ 21 ∧ ρ 21 ≤ 60 := r21
  have r22 : (0 : Int) ≤ ρ 22 ∧ ρ 22 ≤ 8 := r22
  have r23 : (0 : Int) ≤ ρ 23 ∧ ρ 23 ≤ 8 := r23
  have r24 : ((-1) : Int) ≤ ρ 24 ∧ ρ 24 ≤ 19 := r24
  have r25 : (0 : Int) ≤ ρ 25 ∧ ρ 25 ≤ 4 := r25
  have r26 : ((-1) : Int) ≤ ρ 26 ∧ ρ 26 ≤ 7 := r26
  have r27 : (1 : Int) ≤ ρ 27 ∧ ρ 27 ≤ 8 := r27
  have r28 : (3 : Int) ≤ ρ 28 ∧ ρ 28 ≤ 2001 := r28
  have r29 : (0 : Int) ≤ ρ 29 ∧ ρ 29 ≤ 20 := r29
  have r30 : ((-2147483648) : Int) ≤ ρ 30 ∧ ρ 30 ≤ 2147483647 := r30
  have r31 : ((-2147483648) : Int) ≤ ρ 31 ∧ ρ 31 ≤ 2147483647 := r31
  have r32 : (0 : Int) ≤ ρ 32 ∧ ρ 32 ≤ 8 := r32
  have r33 : (0 : Int) ≤ ρ 33 ∧ ρ 33 ≤ 32 := r33
  have r34 : (0 : Int) ≤ ρ 34 ∧ ρ 34 ≤ 5120 := r34
  have r35 : (0 : Int) ≤ ρ 35 ∧ ρ 35 ≤ 2000 := r35
  have r36 : (0 : Int) ≤ ρ 36 ∧ ρ 36 ≤ 2000 := r36
  have r37 : (50001 : Int) ≤ ρ 37 ∧ ρ 37 ≤ 50001 := r37
  have r38 : ((-2147483648) : Int) ≤ ρ 38 ∧ ρ 38 ≤ 2147483647 := r38
  have r39 : (0 : Int) ≤ ρ 39 ∧ ρ 39 ≤ 8 := r39
  obtain ⟨f0, f1, f2, f3, f4, f5, f6, -⟩ := hf
  have f0 : (0 : Int) ≤ -ρ 39 + ρ 27 := f0
  have f1 : (0 : Int) ≤ ρ 28 + -ρ 0 + (-1) := f1
  have f2 : (0 : Int) ≤ ρ 29 + -ρ 2 := f2
  have f3 : (0 : Int) ≤ ρ 34 + -ρ 11 := f3
  have f4 : (0 : Int) ≤ ρ 35 + -ρ 12 := f4
  have f5 : (0 : Int) ≤ ρ 36 + -ρ 13 := f5
  have f6 : (0 : Int) ≤ -ρ 27 + ρ 0 := f6
  obtain ⟨m0, m1, m2, m3, m4, m5, m6, m7, m8, m9, m10, m11, m12, m13, m14, m15, m16, m17, m18, m19, m20, m21, m22, m23, m24, m25, m26, m27, m28, m29, m30, m31, m32, m33, m34, m35, m36, m37, m38, m39, m40, m41, m42, m43, m44, m45, m46, m47, m48, m49, -⟩ := hm
  have m0 : γ 0 2 0 3 = ρ 0 := m0
  have m1 : γ 0 0 0 8 = ρ 1 := m1
  have m2 : γ 0 1 0 7 = ρ 2 := m2
  have m3 : γ 0 1 0 10 = ρ 3 := m3
  have m4 : γ 0 2 0 4 = ρ 4 := m4
  have m5 : γ 0 2 0 5 = ρ 5 := m5
  have m6 : γ 0 2 0 6 = ρ 6 := m6
  have m7 : γ 0 2 0 7 = ρ 7 := m7
  have m8 : γ 0 2 0 9 = ρ 8 := m8
  have m9 : γ 0 2 0 13 = ρ 9 := m9
  have m10 : γ 0 2 0 16 = ρ 10 := m10
  have m11 : γ 0 3 0 1 = ρ 11 := m11
  have m12 : γ 0 4 0 7 = ρ 12 := m12
  have m13 : γ 0 5 0 3 = ρ 13 := m13
  have m14 : γ 0 6 0 0 = ρ 14 := m14
  have m15 : γ 0 6 0 8 = ρ 15 := m15
  have m16 : γ 0 6 0 9 = ρ 16 := m16
  have m17 : γ 0 6 0 10 = ρ 17 := m17
  have m18 : γ 0 6 0 11 = ρ 18 := m18
  have m19 : γ 0 6 0 12 = ρ 19 := m19
  have m20 : γ 0 6 0 13 = ρ 20 := m20
  have m21 : γ 0 40 0 (ρ 3) = ρ 21 := m21
  have m22 : γ 0 9 (ρ 21) 2 = ρ 22 := m22
  have m23 : γ 0 9 (ρ 21) 3 = ρ 23 := m23
  have m24 : γ 0 10 (9 * ρ 21) 8 = ρ 24 := m24
  have m25 : γ 0 10 (9 * ρ 21) 12 = ρ 25 := m25
  have m26 : γ 0 10 (9 * ρ 21) 14 = ρ 26 := m26
  have m27 : γ 1 9 (ρ 21) 2 = ρ 27 := m27
  have m28 : γ 1 2 0 6 = ρ 28 := m28
  have m29 : γ 1 2 0 3 = 0 := m29
  have m30 : γ 1 2 0 7 = 2 := m30
  have m31 : γ 1 0 0 8 = ρ 1 := m31
  have m32 : γ 1 1 0 7 = ρ 29 := m32
  have m33 : γ 1 2 0 4 = ρ 4 := m33
  have m34 : γ 1 2 0 5 = ρ 30 := m34
  have m35 : γ 1 2 0 9 = ρ 31 := m35
  have m36 : γ 1 2 0 13 = ρ 32 := m36
  have m37 : γ 1 2 0 16 = ρ 33 := m37
  have m38 : γ 1 3 0 1 = ρ 34 := m38
  have m39 : γ 1 4 0 7 = ρ 35 := m39
  have m40 : γ 1 5 0 3 = ρ 36 := m40
  have m41 : γ 1 6 0 0 = ρ 37 := m41
  have m42 : γ 1 6 0 8 = (-1) := m42
  have m43 : γ 1 6 0 9 = 2 := m43
  have m44 : γ 1 6 0 10 = 0 := m44
  have m45 : γ 1 6 0 11 = ρ 12 := m45
  have m46 : γ 1 6 0 13 = ρ 38 := m46
  have m47 : γ 1 9 (ρ 21) 3 = ρ 39 := m47
  have m48 : γ 1 10 (9 * ρ 21) 8 = ρ 24 := m48
  have m49 : γ 1 10 (9 * ρ 21) 12 = ρ 25 := m49
  obtain ⟨-, c1⟩ := hc
  have c1 : ∀ (G : Nat) (k j : Int), ¬ rMdP m146_ G j → γ 1 G k j = γ 0 G k j := c1
  obtain ⟨l0, -⟩ := hl
  have l0 : sr266 [ρ 3, ρ 21, ρ 22, ρ 6, ρ 0, ρ 7, ρ 1, ρ 2, ρ 4, ρ 5, ρ 8, ρ 9, ρ 10, ρ 11, ρ 12, ρ 13, ρ 14, ρ 15, ρ 16, ρ 17, ρ 18, ρ 19, ρ 20, ρ 23, ρ 24, ρ 25, ρ 26] (γ 0) 4 0 (γ 1) := hS266 _ _ _ _ _ l0
  show sr275 [ρ 0, ρ 1, ρ 2, ρ 3, ρ 4, ρ 5, ρ 6, ρ 7, ρ 8, ρ 9, ρ 10, ρ 11, ρ 12, ρ 13, ρ 14, ρ 15, ρ 16, ρ 17, ρ 18, ρ 19, ρ 20] (γ 0) 0 2 (γ 1)
  exact eqC_tr l0 eqC_rf
theorem wn275_2 {S : Nat → zSpc} (hS266 : ∀ x g o v gz, S 266 x g o v gz → sr266 x g o v gz) {a : List Int} {g : rHp} : ∀ (ρ : Nat → Int) (γ : Nat → rHp), zO 21 S a g q275_2 ρ γ → zGl (fun _ _ _ => True) (sr275 a g) q275_2 ρ γ := by
  intro ρ γ h
  obtain ⟨ha, hg, hr, hf, hm, hc, hl⟩ := h
  have ha : a = [ρ 0, ρ 1, ρ 2, ρ 3, ρ 4, ρ 5, ρ 6, ρ 7, ρ 8, ρ 9, ρ 10, ρ 11, ρ 12, ρ 13, ρ 14, ρ 15, ρ 16, ρ 17, ρ 18, ρ 19, ρ 20] := ha
  subst ha
  subst hg
  obtain ⟨r0, r1, r2, r3, r4, r5, r6, r7, r8, r9, r10, r11, r12, r13, r14, r15, r16, r17, r18, r19, r20, r21, r22, r23, r24, r25, r26, -⟩ := hr
  have r0 : (0 : Int) ≤ ρ 0 ∧ ρ 0 ≤ 2000 := r0
  have r1 : ((-2147483648) : Int) ≤ ρ 1 ∧ ρ 1 ≤ 2147483647 := r1
  have r2 : (0 : Int) ≤ ρ 2 ∧ ρ 2 ≤ 20 := r2
  have r3 : (0 : Int) ≤ ρ 3 ∧ ρ 3 ≤ 60 := r3
  have r4 : ((-2147483648) : Int) ≤ ρ 4 ∧ ρ 4 ≤ 2147483647 := r4
  have r5 : ((-2147483648) : Int) ≤ ρ 5 ∧ ρ 5 ≤ 2147483647 := r5
  have r6 : (0 : Int) ≤ ρ 6 ∧ ρ 6 ≤ 2001 := r6
  have r7 : (0 : Int) ≤ ρ 7 ∧ ρ 7 ≤ 2 := r7
  have r8 : ((-2147483648) : Int) ≤ ρ 8 ∧ ρ 8 ≤ 2147483647 := r8
  have r9 : (0 : Int) ≤ ρ 9 ∧ ρ 9 ≤ 8 := r9
  have r10 : (0 : Int) ≤ ρ 10 ∧ ρ 10 ≤ 32 := r10
  have r11 : (0 : Int) ≤ ρ 11 ∧ ρ 11 ≤ 5120 := r11
  have r12 : (0 : Int) ≤ ρ 12 ∧ ρ 12 ≤ 2000 := r12
  have r13 : (0 : Int) ≤ ρ 13 ∧ ρ 13 ≤ 2000 := r13
  have r14 : (0 : Int) ≤ ρ 14 ∧ ρ 14 ≤ 50001 := r14
  have r15 : ((-2147483648) : Int) ≤ ρ 15 ∧ ρ 15 ≤ 2147483647 := r15
  have r16 : (0 : Int) ≤ ρ 16 ∧ ρ 16 ≤ 2 := r16
  have r17 : ((-2147483648) : Int) ≤ ρ 17 ∧ ρ 17 ≤ 2147483647 := r17
  have r18 : (0 : Int) ≤ ρ 18 ∧ ρ 18 ≤ 2000 := r18
  have r19 : (0 : Int) ≤ ρ 19 ∧ ρ 19 ≤ 2000 := r19
  have r20 : ((-2147483648) : Int) ≤ ρ 20 ∧ ρ 20 ≤ 2147483647 := r20
  have r21 : (0 : Int) ≤ ρ 21 ∧ ρ 21 ≤ 60 := r21
  have r22 : (0 : Int) ≤ ρ 22 ∧ ρ 22 ≤ 8 := r22
  have r23 : (0 : Int) ≤ ρ 23 ∧ ρ 23 ≤ 8 := r23
  have r24 : ((-1) : Int) ≤ ρ 24 ∧ ρ 24 ≤ 19 := r24
  have r25 : (0 : Int) ≤ ρ 25 ∧ ρ 25 ≤ 4 := r25
  have r26 : ((-1) : Int) ≤ ρ 26 ∧ ρ 26 ≤ 7 := r26
  obtain ⟨m0, m1, m2, m3, m4, m5, m6, m7, m8, m9, m10, m11, m12, m13, m14, m15, m16, m17, m18, m19, m20, m21, m22, m23, m24, m25, m26, m27, m28, m29, m30, m31, m32, m33, m34, m35, m36, m37, m38, m39, m40, m41, m42, m43, m44, m45, m46, m47, m48, m49, -⟩ := hm
  have m0 : γ 0 2 0 3 = ρ 0 := m0
  have m1 : γ 0 0 0 8 = ρ 1 := m1
  have m2 : γ 0 1 0 7 = ρ 2 := m2
  have m3 : γ 0 1 0 10 = ρ 3 := m3
  have m4 : γ 0 2 0 4 = ρ 4 := m4
  have m5 : γ 0 2 0 5 = ρ 5 := m5
  have m6 : γ 0 2 0 6 = ρ 6 := m6
  have m7 : γ 0 2 0 7 = ρ 7 := m7
  have m8 : γ 0 2 0 9 = ρ 8 := m8
  have m9 : γ 0 2 0 13 = ρ 9 := m9
  have m10 : γ 0 2 0 16 = ρ 10 := m10
  have m11 : γ 0 3 0 1 = ρ 11 := m11
  have m12 : γ 0 4 0 7 = ρ 12 := m12
  have m13 : γ 0 5 0 3 = ρ 13 := m13
  have m14 : γ 0 6 0 0 = ρ 14 := m14
  have m15 : γ 0 6 0 8 = ρ 15 := m15
  have m16 : γ 0 6 0 9 = ρ 16 := m16
  have m17 : γ 0 6 0 10 = ρ 17 := m17
  have m18 : γ 0 6 0 11 = ρ 18 := m18
  have m19 : γ 0 6 0 12 = ρ 19 := m19
  have m20 : γ 0 6 0 13 = ρ 20 := m20
  have m21 : γ 0 40 0 (ρ 3) = ρ 21 := m21
  have m22 : γ 0 9 (ρ 21) 2 = ρ 22 := m22
  have m23 : γ 0 9 (ρ 21) 3 = ρ 23 := m23
  have m24 : γ 0 10 (9 * ρ 21) 8 = ρ 24 := m24
  have m25 : γ 0 10 (9 * ρ 21) 12 = ρ 25 := m25
  have m26 : γ 0 10 (9 * ρ 21) 14 = ρ 26 := m26
  have m27 : γ 1 9 (ρ 21) 2 = ρ 22 := m27
  have m28 : γ 1 2 0 6 = ρ 6 := m28
  have m29 : γ 1 2 0 3 = 0 := m29
  have m30 : γ 1 2 0 7 = ρ 7 := m30
  have m31 : γ 1 0 0 8 = ρ 1 := m31
  have m32 : γ 1 1 0 7 = ρ 2 := m32
  have m33 : γ 1 2 0 4 = ρ 4 := m33
  have m34 : γ 1 2 0 5 = ρ 5 := m34
  have m35 : γ 1 2 0 9 = ρ 8 := m35
  have m36 : γ 1 2 0 13 = ρ 9 := m36
  have m37 : γ 1 2 0 16 = ρ 10 := m37
  have m38 : γ 1 3 0 1 = ρ 11 := m38
  have m39 : γ 1 4 0 7 = ρ 12 := m39
  have m40 : γ 1 5 0 3 = ρ 13 := m40
  have m41 : γ 1 6 0 0 = ρ 14 := m41
  have m42 : γ 1 6 0 8 = ρ 15 := m42
  have m43 : γ 1 6 0 9 = ρ 16 := m43
  have m44 : γ 1 6 0 10 = ρ 17 := m44
  have m45 : γ 1 6 0 11 = ρ 18 := m45
  have m46 : γ 1 6 0 13 = ρ 20 := m46
  have m47 : γ 1 9 (ρ 21) 3 = ρ 23 := m47
  have m48 : γ 1 10 (9 * ρ 21) 8 = ρ 24 := m48
  have m49 : γ 1 10 (9 * ρ 21) 12 = ρ 25 := m49
  obtain ⟨-, c1⟩ := hc
  have c1 : ∀ (G : Nat) (k j : Int), ¬ rMdP m146_ G j → γ 1 G k j = γ 0 G k j := c1
  obtain ⟨l0, -⟩ := hl
  have l0 : sr266 [ρ 3, ρ 21, ρ 22, ρ 6, ρ 0, ρ 7, ρ 1, ρ 2, ρ 4, ρ 5, ρ 8, ρ 9, ρ 10, ρ 11, ρ 12, ρ 13, ρ 14, ρ 15, ρ 16, ρ 17, ρ 18, ρ 19, ρ 20, ρ 23, ρ 24, ρ 25, ρ 26] (γ 0) 5 0 (γ 1) := hS266 _ _ _ _ _ l0
  show sr275 [ρ 0, ρ 1, ρ 2, ρ 3, ρ 4, ρ 5, ρ 6, ρ 7, ρ 8, ρ 9, ρ 10, ρ 11, ρ 12, ρ 13, ρ 14, ρ 15, ρ 16, ρ 17, ρ 18, ρ 19, ρ 20] (γ 0) 0 1 (γ 1)
  exact eqC_tr l0 eqC_rf
theorem un275 {S : Nat → zSpc} (hS266 : ∀ x g o v gz, S 266 x g o v gz → sr266 x g o v gz) : ∀ x g o v gz, zSem uW uT w275_.2.2.2.1 w275_.2.2.1.1.length S q275 (fun i => q275a.getD i []) (zNA a275_) x g o v gz → sr275 x g o v gz := by
  intro a g o v gz h
  exact zSem_all (l0 := q275) (las := q275a) (S := S) (J := (fun _ _ _ => True)) (P := sr275 a g) (fun _ => (show zAll _ [q275_0, q275_1, q275_2] from (zAll_c (wn275_0 hS266) (zAll_c (wn275_1 hS266) (zAll_c (wn275_2 hS266) zAll_n))))) (fun _ => (show zAllI _ 0 [] from trivial)) h
theorem wn90_0 {S : Nat → zSpc} (hS1 : ∀ x g o v gz, S 1 x g o v gz → sn1 x g o v gz) (hS5 : ∀ x g o v gz, S 5 x g o v gz → sn5 x g o v gz) (hS7 : ∀ x g o v gz, S 7 x g o v gz → sn7 x g o v gz) (hS8 : ∀ x g o v gz, S 8 x g o v gz → sn8 x g o v gz) (hS21 : ∀ x g o v gz, S 21 x g o v gz → sn21 x g o v gz) (hS27 : ∀ x g o v gz, S 27 x g o v gz → sn27 x g o v gz) (hS31 : ∀ x g o v gz, S 31 x g o v gz → sn31 x g o v gz) (hS32 : ∀ x g o v gz, S 32 x g o v gz → sn32 x g o v gz) {a : List Int} {g : rHp} : ∀ (ρ : Nat → Int) (γ : Nat → rHp), zO 22 S a g q90_0 ρ γ → zGl (fun i vs g1 => jr90 a g i vs g1) (sr90 a g) q90_0 ρ γ := by
  intro ρ γ h
  obtain ⟨ha, hg, hr, hf, hm, hc, hl⟩ := h
  have ha : a = [ρ 0, ρ 1, ρ 2, ρ 3, ρ 4, ρ 5, ρ 6, ρ 7, ρ 8, ρ 9, ρ 10, ρ 11, ρ 12, ρ 13, ρ 14, ρ 15, ρ 16, ρ 17, ρ 18, ρ 19, ρ 20, ρ 21] := ha
  subst ha
  subst hg
  obtain ⟨r0, r1, r2, r3, r4, r5, r6, r7, r8, r9, r10, r11, r12, r13, r14, r15, r16, r17, r18, r19, r20, r21, r22, r23, r24, r25, r26, r27, r28, r29, r30, r31, r32, r33, r34, -⟩ := hr
  have r0 : (0 : Int) ≤ ρ 0 ∧ ρ 0 ≤ 12288 := r0
  have r1 : (0 : Int) ≤ ρ 1 ∧ ρ 1 ≤ 12288 := r1
  have r2 : (0 : Int) ≤ ρ 2 ∧ ρ 2 ≤ 2000 := r2
  have r3 : (0 : Int) ≤ ρ 3 ∧ ρ 3 ≤ 20 := r3
  have r4 : (1 : Int) ≤ ρ 4 ∧ ρ 4 ≤ 1 := r4
  have r5 : (0 : Int) ≤ ρ 5 ∧ ρ 5 ≤ 3 := r5
  have r6 : (0 : Int) ≤ ρ 6 ∧ ρ 6 ≤ 20 := r6
  have r7 : (0 : Int) ≤ ρ 7 ∧ ρ 7 ≤ 2000 := r7
  have r8 : (0 : Int) ≤ ρ 8 ∧ ρ 8 ≤ 2000 := r8
  have r9 : (0 : Int) ≤ ρ 9 ∧ ρ 9 ≤ 2000 := r9
  have r10 : (0 : Int) ≤ ρ 10 ∧ ρ 10 ≤ 2000 := r10
  have r11 : (0 : Int) ≤ ρ 11 ∧ ρ 11 ≤ 2000 := r11
  have r12 : (0 : Int) ≤ ρ 12 ∧ ρ 12 ≤ 3 := r12
  have r13 : (0 : Int) ≤ ρ 13 ∧ ρ 13 ≤ 61 := r13
  have r14 : ((-2147483648) : Int) ≤ ρ 14 ∧ ρ 14 ≤ 2147483647 := r14
  have r15 : (0 : Int) ≤ ρ 15 ∧ ρ 15 ≤ 2000 := r15
  have r16 : (0 : Int) ≤ ρ 16 ∧ ρ 16 ≤ 12 := r16
  have r17 : (0 : Int) ≤ ρ 17 ∧ ρ 17 ≤ 4 := r17
  have r18 : (0 : Int) ≤ ρ 18 ∧ ρ 18 ≤ 4 := r18
  have r19 : ((-1) : Int) ≤ ρ 19 ∧ ρ 19 ≤ 7 := r19
  have r20 : (0 : Int) ≤ ρ 20 ∧ ρ 20 ≤ 64 := r20
  have r21 : (0 : Int) ≤ ρ 21 ∧ ρ 21 ≤ 2000 := r21
  have r22 : (0 : Int) ≤ ρ 22 ∧ ρ 22 ≤ 2000 := r22
  have r23 : (0 : Int) ≤ ρ 23 ∧ ρ 23 ≤ 12288 := r23
  have r24 : (0 : Int) ≤ ρ 24 ∧ ρ 24 ≤ 12288 := r24
  have r25 : (0 : Int) ≤ ρ 25 ∧ ρ 25 ≤ 1 := r25
  have r26 : (0 : Int) ≤ ρ 26 ∧ ρ 26 ≤ 4 := r26
  have r27 : ((-1) : Int) ≤ ρ 27 ∧ ρ 27 ≤ 7 := r27
  have r28 : (0 : Int) ≤ ρ 28 ∧ ρ 28 ≤ 2000 := r28
  have r29 : (0 : Int) ≤ ρ 29 ∧ ρ 29 ≤ 2000 := r29
  have r30 : (0 : Int) ≤ ρ 30 ∧ ρ 30 ≤ 2000 := r30
  have r31 : (0 : Int) ≤ ρ 31 ∧ ρ 31 ≤ 3 := r31
  have r32 : (0 : Int) ≤ ρ 32 ∧ ρ 32 ≤ 2000 := r32
  have r33 : (0 : Int) ≤ ρ 33 ∧ ρ 33 ≤ 12 := r33
  have r34 : (0 : Int) ≤ ρ 34 ∧ ρ 34 ≤ 4 := r34
  obtain ⟨f0, f1, f2, f3, f4, f5, f6, f7, f8, f9, f10, f11, -⟩ := hf
  have f0 : (0 : Int) ≤ -ρ 2 + -ρ 0 + 12288 := f0
  have f1 : (0 : Int) ≤ -ρ 2 + -ρ 1 + 12288 := f1
  have f2 : (0 : Int) ≤ -ρ 25 + ρ 22 := f2
  have f3 : (0 : Int) ≤ -ρ 28 + ρ 22 := f3
  have f4 : (0 : Int) ≤ ρ 23 + -ρ 0 := f4
  have f5 : (0 : Int) ≤ ρ 24 + -ρ 1 := f5
  have f6 : (0 : Int) ≤ ρ 26 + -ρ 25 := f6
  have f7 : (0 : Int) ≤ ρ 33 + -ρ 25 := f7
  have f8 : (0 : Int) ≤ ρ 34 + -ρ 25 := f8
  have f9 : (0 : Int) ≤ -ρ 22 + ρ 2 := f9
  have f10 : (0 : Int) ≤ -ρ 23 + (ρ 22 + ρ 0) := f10
  have f11 : (0 : Int) ≤ -ρ 24 + (ρ 22 + ρ 1) := f11
  obtain ⟨m0, m1, m2, m3, m4, m5, m6, m7, m8, m9, m10, m11, m12, m13, m14, m15, m16, m17, m18, m19, m20, m21, m22, m23, m24, m25, m26, m27, m28, m29, m30, m31, m32, m33, m34, m35, m36, m37, m38, m39, m40, m41, -⟩ := hm
  have m0 : γ 0 15 0 8 = ρ 0 := m0
  have m1 : γ 0 15 0 9 = ρ 1 := m1
  have m2 : γ 0 15 0 3 = ρ 2 := m2
  have m3 : γ 0 15 0 13 = ρ 3 := m3
  have m4 : γ 0 15 0 59 = ρ 4 := m4
  have m5 : γ 0 15 0 0 = ρ 5 := m5
  have m6 : γ 0 15 0 14 = ρ 6 := m6
  have m7 : γ 0 15 0 34 = ρ 7 := m7
  have m8 : γ 0 15 0 35 = ρ 8 := m8
  have m9 : γ 0 15 0 36 = ρ 9 := m9
  have m10 : γ 0 15 0 37 = ρ 10 := m10
  have m11 : γ 0 15 0 38 = ρ 11 := m11
  have m12 : γ 0 15 0 40 = ρ 12 := m12
  have m13 : γ 0 15 0 44 = ρ 13 := m13
  have m14 : γ 0 15 0 45 = ρ 14 := m14
  have m15 : γ 0 15 0 46 = ρ 15 := m15
  have m16 : γ 0 15 0 47 = ρ 16 := m16
  have m17 : γ 0 15 0 48 = ρ 17 := m17
  have m18 : γ 0 15 0 49 = ρ 18 := m18
  have m19 : γ 0 15 0 50 = ρ 19 := m19
  have m20 : γ 0 15 0 58 = ρ 20 := m20
  have m21 : γ 0 15 0 71 = ρ 21 := m21
  have m22 : γ 1 15 0 3 = 0 := m22
  have m23 : γ 1 15 0 34 = ρ 2 := m23
  have m24 : γ 1 15 0 35 = 0 := m24
  have m25 : γ 2 15 0 0 = 0 := m25
  have m26 : γ 4 15 0 44 = 61 := m26
  have m27 : γ 4 15 0 45 = 0 := m27
  have m28 : γ 4 15 0 58 = 0 := m28
  have m29 : γ 5 15 0 35 = ρ 22 := m29
  have m30 : γ 5 15 0 8 = ρ 23 := m30
  have m31 : γ 5 15 0 9 = ρ 24 := m31
  have m32 : γ 5 15 0 58 = ρ 25 := m32
  have m33 : γ 5 15 0 49 = ρ 26 := m33
  have m34 : γ 5 15 0 50 = ρ 27 := m34
  have m35 : γ 5 15 0 36 = ρ 28 := m35
  have m36 : γ 5 15 0 37 = ρ 29 := m36
  have m37 : γ 5 15 0 38 = ρ 30 := m37
  have m38 : γ 5 15 0 40 = ρ 31 := m38
  have m39 : γ 5 15 0 46 = ρ 32 := m39
  have m40 : γ 5 15 0 47 = ρ 33 := m40
  have m41 : γ 5 15 0 48 = ρ 34 := m41
  obtain ⟨⟨⟨⟨⟨-, c1⟩, c2⟩, c3⟩, c4⟩, c5⟩ := hc
  have c1 : ∀ (G : Nat) (k j : Int), ¬ rMdP m5_ G j → γ 1 G k j = γ 0 G k j := c1
  have c2 : ∀ (G : Nat) (k j : Int), ¬ rMdP m1_ G j → γ 2 G k j = γ 1 G k j := c2
  have c3 : γ 3 = rUp (γ 2) 15 0 14 (ρ 3) := c3
  have c4 : ∀ (G : Nat) (k j : Int), ¬ rMdP m22_ G j → γ 4 G k j = γ 3 G k j := c4
  have c5 : ∀ (G : Nat) (k j : Int), ¬ rMdP m20_ G j → γ 5 G k j = γ 4 G k j := c5
  obtain ⟨l0, l1, l2, l3, -⟩ := hl
  have l0 : sn5 [ρ 2, ρ 7, ρ 8] (γ 0) 0 0 (γ 1) := hS5 _ _ _ _ _ l0
  have l1 : sn1 [0, ρ 5] (γ 1) 0 0 (γ 2) := hS1 _ _ _ _ _ l1
  have l2 : sn32 [61, ρ 13, ρ 14, ρ 20] (γ 3) 0 0 (γ 4) := hS32 _ _ _ _ _ l2
  have l3 : sn27 [0, ρ 2, ρ 0, ρ 1, 0, ρ 18, ρ 19, ρ 9, ρ 10, ρ 11, ρ 12, 61, 0, ρ 15, ρ 16, ρ 17] (γ 4) 0 0 (γ 5) := hS27 _ _ _ _ _ l3
  show sr90 [ρ 0, ρ 1, ρ 2, ρ 3, ρ 4, ρ 5, ρ 6, ρ 7, ρ 8, ρ 9, ρ 10, ρ 11, ρ 12, ρ 13, ρ 14, ρ 15, ρ 16, ρ 17, ρ 18, ρ 19, ρ 20, ρ 21] (γ 0) 0 (-ρ 28 + (-2)) (γ 5)
  have h7 : γ 0 15 0 59 ≠ 0 := by rw [m4]; omega
  have e1 : γ 1 = (fn5 [] (γ 0)).2.2 := congrArg (fun r : zR => r.2.2) l0
  have e2 : γ 2 = rUp (γ 1) 15 0 0 0 := congrArg (fun r : zR => r.2.2) l1
  have e4 : γ 4 = (fn32 [61] (γ 3)).2.2 := congrArg (fun r : zR => r.2.2) l2
  have e5 : γ 5 = (fn27 [] (γ 4)).2.2 := congrArg (fun r : zR => r.2.2) l3
  have hb : hG1 (γ 0) = γ 5 := by
    unfold hG1
    rw [if_pos h7, ← e1, ← e2, m3, ← c3, ← e4, ← e5]
  show eqM (hG1 (γ 0)) (γ 5)
  rw [hb]
  exact eqM_rf
theorem wn90_1 {S : Nat → zSpc} (hS1 : ∀ x g o v gz, S 1 x g o v gz → sn1 x g o v gz) (hS5 : ∀ x g o v gz, S 5 x g o v gz → sn5 x g o v gz) (hS7 : ∀ x g o v gz, S 7 x g o v gz → sn7 x g o v gz) (hS8 : ∀ x g o v gz, S 8 x g o v gz → sn8 x g o v gz) (hS21 : ∀ x g o v gz, S 21 x g o v gz → sn21 x g o v gz) (hS27 : ∀ x g o v gz, S 27 x g o v gz → sn27 x g o v gz) (hS31 : ∀ x g o v gz, S 31 x g o v gz → sn31 x g o v gz) (hS32 : ∀ x g o v gz, S 32 x g o v gz → sn32 x g o v gz) {a : List Int} {g : rHp} : ∀ (ρ : Nat → Int) (γ : Nat → rHp), zO 22 S a g q90_1 ρ γ → zGl (fun i vs g1 => jr90 a g i vs g1) (sr90 a g) q90_1 ρ γ := by
  intro ρ γ h
  obtain ⟨ha, hg, hr, hf, hm, hc, hl⟩ := h
  have ha : a = [ρ 0, ρ 1, ρ 2, ρ 3, ρ 4, ρ 5, ρ 6, ρ 7, ρ 8, ρ 9, ρ 10, ρ 11, ρ 12, ρ 13, ρ 14, ρ 15, ρ 16, ρ 17, ρ 18, ρ 19, ρ 20, ρ 21] := ha
  subst ha
  subst hg
  obtain ⟨r0, r1, r2, r3, r4, r5, r6, r7, r8, r9, r10, r11, r12, r13, r14, r15, r16, r17, r18, r19, r20, r21, r22, r23, r24, r25, r26, r27, r28, r29, r30, r31, r32, r33, r34, -⟩ := hr
  have r0 : (0 : Int) ≤ ρ 0 ∧ ρ 0 ≤ 12288 := r0
  have r1 : (0 : Int) ≤ ρ 1 ∧ ρ 1 ≤ 12288 := r1
  have r2 : (1 : Int) ≤ ρ 2 ∧ ρ 2 ≤ 2000 := r2
  have r3 : (0 : Int) ≤ ρ 3 ∧ ρ 3 ≤ 20 := r3
  have r4 : (1 : Int) ≤ ρ 4 ∧ ρ 4 ≤ 1 := r4
  have r5 : (0 : Int) ≤ ρ 5 ∧ ρ 5 ≤ 3 := r5
  have r6 : (0 : Int) ≤ ρ 6 ∧ ρ 6 ≤ 20 := r6
  have r7 : (0 : Int) ≤ ρ 7 ∧ ρ 7 ≤ 2000 := r7
  have r8 : (0 : Int) ≤ ρ 8 ∧ ρ 8 ≤ 2000 := r8
  have r9 : (0 : Int) ≤ ρ 9 ∧ ρ 9 ≤ 2000 := r9
  have r10 : (0 : Int) ≤ ρ 10 ∧ ρ 10 ≤ 2000 := r10
  have r11 : (0 : Int) ≤ ρ 11 ∧ ρ 11 ≤ 2000 := r11
  have r12 : (0 : Int) ≤ ρ 12 ∧ ρ 12 ≤ 3 := r12
  have r13 : (0 : Int) ≤ ρ 13 ∧ ρ 13 ≤ 61 := r13
  have r14 : ((-2147483648) : Int) ≤ ρ 14 ∧ ρ 14 ≤ 2147483647 := r14
  have r15 : (0 : Int) ≤ ρ 15 ∧ ρ 15 ≤ 2000 := r15
  have r16 : (0 : Int) ≤ ρ 16 ∧ ρ 16 ≤ 12 := r16
  have r17 : (0 : Int) ≤ ρ 17 ∧ ρ 17 ≤ 4 := r17
  have r18 : (0 : Int) ≤ ρ 18 ∧ ρ 18 ≤ 4 := r18
  have r19 : ((-1) : Int) ≤ ρ 19 ∧ ρ 19 ≤ 7 := r19
  have r20 : (0 : Int) ≤ ρ 20 ∧ ρ 20 ≤ 64 := r20
  have r21 : (0 : Int) ≤ ρ 21 ∧ ρ 21 ≤ 2000 := r21
  have r22 : (3 : Int) ≤ ρ 22 ∧ ρ 22 ≤ 2000 := r22
  have r23 : (0 : Int) ≤ ρ 23 ∧ ρ 23 ≤ 12288 := r23
  have r24 : (0 : Int) ≤ ρ 24 ∧ ρ 24 ≤ 12288 := r24
  have r25 : (0 : Int) ≤ ρ 25 ∧ ρ 25 ≤ 1 := r25
  have r26 : (0 : Int) ≤ ρ 26 ∧ ρ 26 ≤ 4 := r26
  have r27 : ((-1) : Int) ≤ ρ 27 ∧ ρ 27 ≤ 7 := r27
  have r28 : (0 : Int) ≤ ρ 28 ∧ ρ 28 ≤ 2000 := r28
  have r29 : (0 : Int) ≤ ρ 29 ∧ ρ 29 ≤ 2000 := r29
  have r30 : (0 : Int) ≤ ρ 30 ∧ ρ 30 ≤ 3 := r30
  have r31 : (0 : Int) ≤ ρ 31 ∧ ρ 31 ≤ 1999 := r31
  have r32 : (1 : Int) ≤ ρ 32 ∧ ρ 32 ≤ 12 := r32
  have r33 : (0 : Int) ≤ ρ 33 ∧ ρ 33 ≤ 4 := r33
  have r34 : (0 : Int) ≤ ρ 34 ∧ ρ 34 ≤ 2000 := r34
  obtain ⟨f0, f1, f2, f3, f4, f5, f6, f7, f8, f9, f10, f11, f12, f13, f14, f15, f16, -⟩ := hf
  have f0 : (0 : Int) ≤ -ρ 34 + ρ 2 := f0
  have f1 : (0 : Int) ≤ -ρ 2 + -ρ 0 + 12288 := f1
  have f2 : (0 : Int) ≤ -ρ 2 + -ρ 1 + 12288 := f2
  have f3 : (0 : Int) ≤ -ρ 31 + ρ 22 + (-1) := f3
  have f4 : (0 : Int) ≤ -ρ 32 + ρ 22 + (-1) := f4
  have f5 : (0 : Int) ≤ -ρ 33 + ρ 22 + (-1) := f5
  have f6 : (0 : Int) ≤ ρ 23 + -ρ 0 := f6
  have f7 : (0 : Int) ≤ ρ 24 + -ρ 1 := f7
  have f8 : (0 : Int) ≤ ρ 26 + -ρ 25 := f8
  have f9 : (0 : Int) ≤ ρ 33 + -ρ 25 := f9
  have f10 : (0 : Int) ≤ -ρ 22 + ρ 2 := f10
  have f11 : (0 : Int) ≤ -ρ 25 + ρ 2 + (-1) := f11
  have f12 : (0 : Int) ≤ -ρ 30 + ρ 2 := f12
  have f13 : (0 : Int) ≤ -ρ 12 + ρ 2 := f13
  have f14 : (0 : Int) ≤ -ρ 23 + (ρ 22 + ρ 0) := f14
  have f15 : (0 : Int) ≤ -ρ 24 + (ρ 22 + ρ 1) := f15
  have f16 : (0 : Int) ≤ 3 * ρ 27 + -ρ 26 + 4 := f16
  obtain ⟨m0, m1, m2, m3, m4, m5, m6, m7, m8, m9, m10, m11, m12, m13, m14, m15, m16, m17, m18, m19, m20, m21, m22, m23, m24, m25, m26, m27, m28, m29, m30, m31, m32, m33, m34, m35, m36, m37, m38, m39, m40, m41, m42, -⟩ := hm
  have m0 : γ 0 15 0 8 = ρ 0 := m0
  have m1 : γ 0 15 0 9 = ρ 1 := m1
  have m2 : γ 0 15 0 3 = ρ 2 := m2
  have m3 : γ 0 15 0 13 = ρ 3 := m3
  have m4 : γ 0 15 0 59 = ρ 4 := m4
  have m5 : γ 0 15 0 0 = ρ 5 := m5
  have m6 : γ 0 15 0 14 = ρ 6 := m6
  have m7 : γ 0 15 0 34 = ρ 7 := m7
  have m8 : γ 0 15 0 35 = ρ 8 := m8
  have m9 : γ 0 15 0 36 = ρ 9 := m9
  have m10 : γ 0 15 0 37 = ρ 10 := m10
  have m11 : γ 0 15 0 38 = ρ 11 := m11
  have m12 : γ 0 15 0 40 = ρ 12 := m12
  have m13 : γ 0 15 0 44 = ρ 13 := m13
  have m14 : γ 0 15 0 45 = ρ 14 := m14
  have m15 : γ 0 15 0 46 = ρ 15 := m15
  have m16 : γ 0 15 0 47 = ρ 16 := m16
  have m17 : γ 0 15 0 48 = ρ 17 := m17
  have m18 : γ 0 15 0 49 = ρ 18 := m18
  have m19 : γ 0 15 0 50 = ρ 19 := m19
  have m20 : γ 0 15 0 58 = ρ 20 := m20
  have m21 : γ 0 15 0 71 = ρ 21 := m21
  have m22 : γ 1 15 0 3 = 0 := m22
  have m23 : γ 1 15 0 34 = ρ 2 := m23
  have m24 : γ 1 15 0 35 = 0 := m24
  have m25 : γ 2 15 0 0 = 0 := m25
  have m26 : γ 4 15 0 44 = 61 := m26
  have m27 : γ 4 15 0 45 = 0 := m27
  have m28 : γ 4 15 0 58 = 0 := m28
  have m29 : γ 5 15 0 35 = ρ 22 := m29
  have m30 : γ 5 15 0 8 = ρ 23 := m30
  have m31 : γ 5 15 0 9 = ρ 24 := m31
  have m32 : γ 5 15 0 58 = ρ 25 := m32
  have m33 : γ 5 15 0 49 = ρ 26 := m33
  have m34 : γ 5 15 0 50 = ρ 27 := m34
  have m35 : γ 5 15 0 36 = ρ 9 := m35
  have m36 : γ 5 15 0 37 = ρ 28 := m36
  have m37 : γ 5 15 0 38 = ρ 29 := m37
  have m38 : γ 5 15 0 40 = ρ 30 := m38
  have m39 : γ 5 15 0 46 = ρ 31 := m39
  have m40 : γ 5 15 0 47 = ρ 32 := m40
  have m41 : γ 5 15 0 48 = ρ 33 := m41
  have m42 : γ 6 15 0 36 = ρ 34 := m42
  obtain ⟨⟨⟨⟨⟨⟨-, c1⟩, c2⟩, c3⟩, c4⟩, c5⟩, c6⟩ := hc
  have c1 : ∀ (G : Nat) (k j : Int), ¬ rMdP m5_ G j → γ 1 G k j = γ 0 G k j := c1
  have c2 : ∀ (G : Nat) (k j : Int), ¬ rMdP m1_ G j → γ 2 G k j = γ 1 G k j := c2
  have c3 : γ 3 = rUp (γ 2) 15 0 14 (ρ 3) := c3
  have c4 : ∀ (G : Nat) (k j : Int), ¬ rMdP m22_ G j → γ 4 G k j = γ 3 G k j := c4
  have c5 : ∀ (G : Nat) (k j : Int), ¬ rMdP m20_ G j → γ 5 G k j = γ 4 G k j := c5
  have c6 : ∀ (G : Nat) (k j : Int), ¬ rMdP m7_ G j → γ 6 G k j = γ 5 G k j := c6
  obtain ⟨l0, l1, l2, l3, l4, -⟩ := hl
  have l0 : sn5 [ρ 2, ρ 7, ρ 8] (γ 0) 0 0 (γ 1) := hS5 _ _ _ _ _ l0
  have l1 : sn1 [0, ρ 5] (γ 1) 0 0 (γ 2) := hS1 _ _ _ _ _ l1
  have l2 : sn32 [61, ρ 13, ρ 14, ρ 20] (γ 3) 0 0 (γ 4) := hS32 _ _ _ _ _ l2
  have l3 : sn27 [0, ρ 2, ρ 0, ρ 1, 0, ρ 18, ρ 19, ρ 9, ρ 10, ρ 11, ρ 12, 61, 0, ρ 15, ρ 16, ρ 17] (γ 4) 0 1 (γ 5) := hS27 _ _ _ _ _ l3
  have l4 : sn31 [ρ 2, ρ 9, ρ 33] (γ 5) 0 0 (γ 6) := hS31 _ _ _ _ _ l4
  show sr90 [ρ 0, ρ 1, ρ 2, ρ 3, ρ 4, ρ 5, ρ 6, ρ 7, ρ 8, ρ 9, ρ 10, ρ 11, ρ 12, ρ 13, ρ 14, ρ 15, ρ 16, ρ 17, ρ 18, ρ 19, ρ 20, ρ 21] (γ 0) 0 (-ρ 34 + (-2)) (γ 6)
  have h7 : γ 0 15 0 59 ≠ 0 := by rw [m4]; omega
  have e1 : γ 1 = (fn5 [] (γ 0)).2.2 := congrArg (fun r : zR => r.2.2) l0
  have e2 : γ 2 = rUp (γ 1) 15 0 0 0 := congrArg (fun r : zR => r.2.2) l1
  have e4 : γ 4 = (fn32 [61] (γ 3)).2.2 := congrArg (fun r : zR => r.2.2) l2
  have e5 : γ 5 = (fn27 [] (γ 4)).2.2 := congrArg (fun r : zR => r.2.2) l3
  have hb : hG1 (γ 0) = γ 5 := by
    unfold hG1
    rw [if_pos h7, ← e1, ← e2, m3, ← c3, ← e4, ← e5]
  show eqM (hG1 (γ 0)) (γ 6)
  rw [hb]
  exact (eqM_k (ms := m7_) (by decide +kernel) c6)
theorem wn90_2 {S : Nat → zSpc} (hS1 : ∀ x g o v gz, S 1 x g o v gz → sn1 x g o v gz) (hS5 : ∀ x g o v gz, S 5 x g o v gz → sn5 x g o v gz) (hS7 : ∀ x g o v gz, S 7 x g o v gz → sn7 x g o v gz) (hS8 : ∀ x g o v gz, S 8 x g o v gz → sn8 x g o v gz) (hS21 : ∀ x g o v gz, S 21 x g o v gz → sn21 x g o v gz) (hS27 : ∀ x g o v gz, S 27 x g o v gz → sn27 x g o v gz) (hS31 : ∀ x g o v gz, S 31 x g o v gz → sn31 x g o v gz) (hS32 : ∀ x g o v gz, S 32 x g o v gz → sn32 x g o v gz) {a : List Int} {g : rHp} : ∀ (ρ : Nat → Int) (γ : Nat → rHp), zO 22 S a g q90_2 ρ γ → zGl (fun i vs g1 => jr90 a g i vs g1) (sr90 a g) q90_2 ρ γ := by
  intro ρ γ h
  obtain ⟨ha, hg, hr, hf, hm, hc, hl⟩ := h
  have ha : a = [ρ 0, ρ 1, ρ 2, ρ 3, ρ 4, ρ 5, ρ 6, ρ 7, ρ 8, ρ 9, ρ 10, ρ 11, ρ 12, ρ 13, ρ 14, ρ 15, ρ 16, ρ 17, ρ 18, ρ 19, ρ 20, ρ 21] := ha
  subst ha
  subst hg
  obtain ⟨r0, r1, r2, r3, r4, r5, r6, r7, r8, r9, r10, r11, r12, r13, r14, r15, r16, r17, r18, r19, r20, r21, r22, r23, r24, r25, r26, r27, r28, r29, r30, r31, r32, r33, r34, r35, -⟩ := hr
  have r0 : (0 : Int) ≤ ρ 0 ∧ ρ 0 ≤ 12288 := r0
  have r1 : (0 : Int) ≤ ρ 1 ∧ ρ 1 ≤ 12288 := r1
  have r2 : (1 : Int) ≤ ρ 2 ∧ ρ 2 ≤ 2000 := r2
  have r3 : (0 : Int) ≤ ρ 3 ∧ ρ 3 ≤ 20 := r3
  have r4 : (1 : Int) ≤ ρ 4 ∧ ρ 4 ≤ 1 := r4
  have r5 : (0 : Int) ≤ ρ 5 ∧ ρ 5 ≤ 3 := r5
  have r6 : (0 : Int) ≤ ρ 6 ∧ ρ 6 ≤ 20 := r6
  have r7 : (0 : Int) ≤ ρ 7 ∧ ρ 7 ≤ 2000 := r7
  have r8 : (0 : Int) ≤ ρ 8 ∧ ρ 8 ≤ 2000 := r8
  have r9 : (0 : Int) ≤ ρ 9 ∧ ρ 9 ≤ 2000 := r9
  have r10 : (0 : Int) ≤ ρ 10 ∧ ρ 10 ≤ 2000 := r10
  have r11 : (0 : Int) ≤ ρ 11 ∧ ρ 11 ≤ 2000 := r11
  have r12 : (0 : Int) ≤ ρ 12 ∧ ρ 12 ≤ 3 := r12
  have r13 : (0 : Int) ≤ ρ 13 ∧ ρ 13 ≤ 61 := r13
  have r14 : ((-2147483648) : Int) ≤ ρ 14 ∧ ρ 14 ≤ 2147483647 := r14
  have r15 : (0 : Int) ≤ ρ 15 ∧ ρ 15 ≤ 2000 := r15
  have r16 : (0 : Int) ≤ ρ 16 ∧ ρ 16 ≤ 12 := r16
  have r17 : (0 : Int) ≤ ρ 17 ∧ ρ 17 ≤ 4 := r17
  have r18 : (0 : Int) ≤ ρ 18 ∧ ρ 18 ≤ 4 := r18
  have r19 : ((-1) : Int) ≤ ρ 19 ∧ ρ 19 ≤ 7 := r19
  have r20 : (0 : Int) ≤ ρ 20 ∧ ρ 20 ≤ 64 := r20
  have r21 : (0 : Int) ≤ ρ 21 ∧ ρ 21 ≤ 2000 := r21
  have r22 : (3 : Int) ≤ ρ 22 ∧ ρ 22 ≤ 2000 := r22
  have r23 : (0 : Int) ≤ ρ 23 ∧ ρ 23 ≤ 12288 := r23
  have r24 : (0 : Int) ≤ ρ 24 ∧ ρ 24 ≤ 12288 := r24
  have r25 : (0 : Int) ≤ ρ 25 ∧ ρ 25 ≤ 1 := r25
  have r26 : (0 : Int) ≤ ρ 26 ∧ ρ 26 ≤ 4 := r26
  have r27 : ((-1) : Int) ≤ ρ 27 ∧ ρ 27 ≤ 7 := r27
  have r28 : (0 : Int) ≤ ρ 28 ∧ ρ 28 ≤ 2000 := r28
  have r29 : (0 : Int) ≤ ρ 29 ∧ ρ 29 ≤ 2000 := r29
  have r30 : (0 : Int) ≤ ρ 30 ∧ ρ 30 ≤ 3 := r30
  have r31 : (0 : Int) ≤ ρ 31 ∧ ρ 31 ≤ 1999 := r31
  have r32 : (1 : Int) ≤ ρ 32 ∧ ρ 32 ≤ 12 := r32
  have r33 : (0 : Int) ≤ ρ 33 ∧ ρ 33 ≤ 4 := r33
  have r34 : (0 : Int) ≤ ρ 34 ∧ ρ 34 ≤ 2000 := r34
  have r35 : (0 : Int) ≤ ρ 35 ∧ ρ 35 ≤ 19 := r35
  obtain ⟨f0, f1, f2, f3, f4, f5, f6, f7, f8, f9, f10, f11, f12, f13, f14, f15, f16, f17, f18, f19, f20, -⟩ := hf
  have f0 : (0 : Int) ≤ -ρ 32 + -ρ 31 + 2000 := f0
  have f1 : (0 : Int) ≤ -ρ 35 + ρ 3 + (-1) := f1
  have f2 : (0 : Int) ≤ -ρ 34 + ρ 2 := f2
  have f3 : (0 : Int) ≤ ρ 34 + -ρ 2 := f3
  have f4 : (0 : Int) ≤ -ρ 22 + ρ 2 := f4
  have f5 : (0 : Int) ≤ ρ 34 + -ρ 22 := f5
  have f6 : (0 : Int) ≤ -ρ 2 + -ρ 0 + 12288 := f6
  have f7 : (0 : Int) ≤ -ρ 2 + -ρ 1 + 12288 := f7
  have f8 : (0 : Int) ≤ -ρ 31 + ρ 22 + (-1) := f8
  have f9 : (0 : Int) ≤ -ρ 32 + ρ 22 + (-1) := f9
  have f10 : (0 : Int) ≤ -ρ 33 + ρ 22 + (-1) := f10
  have f11 : (0 : Int) ≤ ρ 23 + -ρ 0 := f11
  have f12 : (0 : Int) ≤ ρ 24 + -ρ 1 := f12
  have f13 : (0 : Int) ≤ ρ 26 + -ρ 25 := f13
  have f14 : (0 : Int) ≤ ρ 33 + -ρ 25 := f14
  have f15 : (0 : Int) ≤ -ρ 25 + ρ 2 + (-1) := f15
  have f16 : (0 : Int) ≤ -ρ 30 + ρ 2 := f16
  have f17 : (0 : Int) ≤ -ρ 12 + ρ 2 := f17
  have f18 : (0 : Int) ≤ -ρ 23 + (ρ 22 + ρ 0) := f18
  have f19 : (0 : Int) ≤ -ρ 24 + (ρ 22 + ρ 1) := f19
  have f20 : (0 : Int) ≤ 3 * ρ 27 + -ρ 26 + 4 := f20
  obtain ⟨m0, m1, m2, m3, m4, m5, m6, m7, m8, m9, m10, m11, m12, m13, m14, m15, m16, m17, m18, m19, m20, m21, m22, m23, m24, m25, m26, m27, m28, m29, m30, m31, m32, m33, m34, m35, m36, m37, m38, m39, m40, m41, m42, m43, -⟩ := hm
  have m0 : γ 0 15 0 8 = ρ 0 := m0
  have m1 : γ 0 15 0 9 = ρ 1 := m1
  have m2 : γ 0 15 0 3 = ρ 2 := m2
  have m3 : γ 0 15 0 13 = ρ 3 := m3
  have m4 : γ 0 15 0 59 = ρ 4 := m4
  have m5 : γ 0 15 0 0 = ρ 5 := m5
  have m6 : γ 0 15 0 14 = ρ 6 := m6
  have m7 : γ 0 15 0 34 = ρ 7 := m7
  have m8 : γ 0 15 0 35 = ρ 8 := m8
  have m9 : γ 0 15 0 36 = ρ 9 := m9
  have m10 : γ 0 15 0 37 = ρ 10 := m10
  have m11 : γ 0 15 0 38 = ρ 11 := m11
  have m12 : γ 0 15 0 40 = ρ 12 := m12
  have m13 : γ 0 15 0 44 = ρ 13 := m13
  have m14 : γ 0 15 0 45 = ρ 14 := m14
  have m15 : γ 0 15 0 46 = ρ 15 := m15
  have m16 : γ 0 15 0 47 = ρ 16 := m16
  have m17 : γ 0 15 0 48 = ρ 17 := m17
  have m18 : γ 0 15 0 49 = ρ 18 := m18
  have m19 : γ 0 15 0 50 = ρ 19 := m19
  have m20 : γ 0 15 0 58 = ρ 20 := m20
  have m21 : γ 0 15 0 71 = ρ 21 := m21
  have m22 : γ 1 15 0 3 = 0 := m22
  have m23 : γ 1 15 0 34 = ρ 2 := m23
  have m24 : γ 1 15 0 35 = 0 := m24
  have m25 : γ 2 15 0 0 = 0 := m25
  have m26 : γ 4 15 0 44 = 61 := m26
  have m27 : γ 4 15 0 45 = 0 := m27
  have m28 : γ 4 15 0 58 = 0 := m28
  have m29 : γ 5 15 0 35 = ρ 22 := m29
  have m30 : γ 5 15 0 8 = ρ 23 := m30
  have m31 : γ 5 15 0 9 = ρ 24 := m31
  have m32 : γ 5 15 0 58 = ρ 25 := m32
  have m33 : γ 5 15 0 49 = ρ 26 := m33
  have m34 : γ 5 15 0 50 = ρ 27 := m34
  have m35 : γ 5 15 0 36 = ρ 9 := m35
  have m36 : γ 5 15 0 37 = ρ 28 := m36
  have m37 : γ 5 15 0 38 = ρ 29 := m37
  have m38 : γ 5 15 0 40 = ρ 30 := m38
  have m39 : γ 5 15 0 46 = ρ 31 := m39
  have m40 : γ 5 15 0 47 = ρ 32 := m40
  have m41 : γ 5 15 0 48 = ρ 33 := m41
  have m42 : γ 6 15 0 36 = ρ 9 := m42
  have m43 : γ 7 15 0 35 = ρ 34 := m43
  obtain ⟨⟨⟨⟨⟨⟨⟨⟨-, c1⟩, c2⟩, c3⟩, c4⟩, c5⟩, c6⟩, c7⟩, c8⟩ := hc
  have c1 : ∀ (G : Nat) (k j : Int), ¬ rMdP m5_ G j → γ 1 G k j = γ 0 G k j := c1
  have c2 : ∀ (G : Nat) (k j : Int), ¬ rMdP m1_ G j → γ 2 G k j = γ 1 G k j := c2
  have c3 : γ 3 = rUp (γ 2) 15 0 14 (ρ 3) := c3
  have c4 : ∀ (G : Nat) (k j : Int), ¬ rMdP m22_ G j → γ 4 G k j = γ 3 G k j := c4
  have c5 : ∀ (G : Nat) (k j : Int), ¬ rMdP m20_ G j → γ 5 G k j = γ 4 G k j := c5
  have c6 : ∀ (G : Nat) (k j : Int), ¬ rMdP m7_ G j → γ 6 G k j = γ 5 G k j := c6
  have c7 : ∀ (G : Nat) (k j : Int), ¬ rMdP m6_ G j → γ 7 G k j = γ 6 G k j := c7
  have c8 : ∀ (G : Nat) (k j : Int), ¬ rMdP m0_ G j → γ 8 G k j = γ 7 G k j := c8
  obtain ⟨l0, l1, l2, l3, l4, l5, l6, -⟩ := hl
  have l0 : sn5 [ρ 2, ρ 7, ρ 8] (γ 0) 0 0 (γ 1) := hS5 _ _ _ _ _ l0
  have l1 : sn1 [0, ρ 5] (γ 1) 0 0 (γ 2) := hS1 _ _ _ _ _ l1
  have l2 : sn32 [61, ρ 13, ρ 14, ρ 20] (γ 3) 0 0 (γ 4) := hS32 _ _ _ _ _ l2
  have l3 : sn27 [0, ρ 2, ρ 0, ρ 1, 0, ρ 18, ρ 19, ρ 9, ρ 10, ρ 11, ρ 12, 61, 0, ρ 15, ρ 16, ρ 17] (γ 4) 0 1 (γ 5) := hS27 _ _ _ _ _ l3
  have l4 : sn31 [ρ 2, ρ 9, ρ 33] (γ 5) 0 1 (γ 6) := hS31 _ _ _ _ _ l4
  have l5 : sn7 [ρ 22, ρ 2] (γ 6) 0 0 (γ 7) := hS7 _ _ _ _ _ l5
  have l6 : sn21 [ρ 31, ρ 32, ρ 33, ρ 3] (γ 7) 0 (ρ 35) (γ 8) := hS21 _ _ _ _ _ l6
  show jr90 [ρ 0, ρ 1, ρ 2, ρ 3, ρ 4, ρ 5, ρ 6, ρ 7, ρ 8, ρ 9, ρ 10, ρ 11, ρ 12, ρ 13, ρ 14, ρ 15, ρ 16, ρ 17, ρ 18, ρ 19, ρ 20, ρ 21] (γ 0) 0 [ρ 0, ρ 1, ρ 2, ρ 3, ρ 4, ρ 5, ρ 6, ρ 7, ρ 8, ρ 9, ρ 10, ρ 11, ρ 12, ρ 13, ρ 14, ρ 15, ρ 16, ρ 17, ρ 18, ρ 19, ρ 20, ρ 21, 0, ρ 35, ρ 23, ρ 24, 0, 0, ρ 28, ρ 29, ρ 30, 61, 0, ρ 31, ρ 32, ρ 33, ρ 26, ρ 27, ρ 25] (γ 8)
  have h7 : γ 0 15 0 59 ≠ 0 := by rw [m4]; omega
  have e1 : γ 1 = (fn5 [] (γ 0)).2.2 := congrArg (fun r : zR => r.2.2) l0
  have e2 : γ 2 = rUp (γ 1) 15 0 0 0 := congrArg (fun r : zR => r.2.2) l1
  have e4 : γ 4 = (fn32 [61] (γ 3)).2.2 := congrArg (fun r : zR => r.2.2) l2
  have e5 : γ 5 = (fn27 [] (γ 4)).2.2 := congrArg (fun r : zR => r.2.2) l3
  have hb : hG1 (γ 0) = γ 5 := by
    unfold hG1
    rw [if_pos h7, ← e1, ← e2, m3, ← c3, ← e4, ← e5]
  show eqM (hG1 (γ 0)) (γ 8)
  rw [hb]
  exact (eqM_tr (eqM_k (ms := m7_) (by decide +kernel) c6) (eqM_tr (eqM_k (ms := m6_) (by decide +kernel) c7) (eqM_k (ms := m0_) (by decide +kernel) c8)))
theorem wn90_3 {S : Nat → zSpc} (hS1 : ∀ x g o v gz, S 1 x g o v gz → sn1 x g o v gz) (hS5 : ∀ x g o v gz, S 5 x g o v gz → sn5 x g o v gz) (hS7 : ∀ x g o v gz, S 7 x g o v gz → sn7 x g o v gz) (hS8 : ∀ x g o v gz, S 8 x g o v gz → sn8 x g o v gz) (hS21 : ∀ x g o v gz, S 21 x g o v gz → sn21 x g o v gz) (hS27 : ∀ x g o v gz, S 27 x g o v gz → sn27 x g o v gz) (hS31 : ∀ x g o v gz, S 31 x g o v gz → sn31 x g o v gz) (hS32 : ∀ x g o v gz, S 32 x g o v gz → sn32 x g o v gz) {a : List Int} {g : rHp} : ∀ (ρ : Nat → Int) (γ : Nat → rHp), zO 22 S a g q90_3 ρ γ → zGl (fun i vs g1 => jr90 a g i vs g1) (sr90 a g) q90_3 ρ γ := by
  intro ρ γ h
  obtain ⟨ha, hg, hr, hf, hm, hc, hl⟩ := h
  have ha : a = [ρ 0, ρ 1, ρ 2, ρ 3, ρ 4, ρ 5, ρ 6, ρ 7, ρ 8, ρ 9, ρ 10, ρ 11, ρ 12, ρ 13, ρ 14, ρ 15, ρ 16, ρ 17, ρ 18, ρ 19, ρ 20, ρ 21] := ha
  subst ha
  subst hg
  obtain ⟨r0, r1, r2, r3, r4, r5, r6, r7, r8, r9, r10, r11, r12, r13, r14, r15, r16, r17, r18, r19, r20, r21, r22, r23, r24, r25, r26, r27, r28, r29, r30, r31, r32, r33, r34, r35, -⟩ := hr
  have r0 : (0 : Int) ≤ ρ 0 ∧ ρ 0 ≤ 12288 := r0
  have r1 : (0 : Int) ≤ ρ 1 ∧ ρ 1 ≤ 12288 := r1
  have r2 : (1 : Int) ≤ ρ 2 ∧ ρ 2 ≤ 2000 := r2
  have r3 : (0 : Int) ≤ ρ 3 ∧ ρ 3 ≤ 20 := r3
  have r4 : (1 : Int) ≤ ρ 4 ∧ ρ 4 ≤ 1 := r4
  have r5 : (0 : Int) ≤ ρ 5 ∧ ρ 5 ≤ 3 := r5
  have r6 : (0 : Int) ≤ ρ 6 ∧ ρ 6 ≤ 20 := r6
  have r7 : (0 : Int) ≤ ρ 7 ∧ ρ 7 ≤ 2000 := r7
  have r8 : (0 : Int) ≤ ρ 8 ∧ ρ 8 ≤ 2000 := r8
  have r9 : (0 : Int) ≤ ρ 9 ∧ ρ 9 ≤ 2000 := r9
  have r10 : (0 : Int) ≤ ρ 10 ∧ ρ 10 ≤ 2000 := r10
  have r11 : (0 : Int) ≤ ρ 11 ∧ ρ 11 ≤ 2000 := r11
  have r12 : (0 : Int) ≤ ρ 12 ∧ ρ 12 ≤ 3 := r12
  have r13 : (0 : Int) ≤ ρ 13 ∧ ρ 13 ≤ 61 := r13
  have r14 : ((-2147483648) : Int) ≤ ρ 14 ∧ ρ 14 ≤ 2147483647 := r14
  have r15 : (0 : Int) ≤ ρ 15 ∧ ρ 15 ≤ 2000 := r15
  have r16 : (0 : Int) ≤ ρ 16 ∧ ρ 16 ≤ 12 := r16
  have r17 : (0 : Int) ≤ ρ 17 ∧ ρ 17 ≤ 4 := r17
  have r18 : (0 : Int) ≤ ρ 18 ∧ ρ 18 ≤ 4 := r18
  have r19 : ((-1) : Int) ≤ ρ 19 ∧ ρ 19 ≤ 7 := r19
  have r20 : (0 : Int) ≤ ρ 20 ∧ ρ 20 ≤ 64 := r20
  have r21 : (0 : Int) ≤ ρ 21 ∧ ρ 21 ≤ 2000 := r21
  have r22 : (3 : Int) ≤ ρ 22 ∧ ρ 22 ≤ 2000 := r22
  have r23 : (0 : Int) ≤ ρ 23 ∧ ρ 23 ≤ 12288 := r23
  have r24 : (0 : Int) ≤ ρ 24 ∧ ρ 24 ≤ 12288 := r24
  have r25 : (0 : Int) ≤ ρ 25 ∧ ρ 25 ≤ 1 := r25
  have r26 : (0 : Int) ≤ ρ 26 ∧ ρ 26 ≤ 4 := r26
  have r27 : ((-1) : Int) ≤ ρ 27 ∧ ρ 27 ≤ 7 := r27
  have r28 : (0 : Int) ≤ ρ 28 ∧ ρ 28 ≤ 2000 := r28
  have r29 : (0 : Int) ≤ ρ 29 ∧ ρ 29 ≤ 2000 := r29
  have r30 : (0 : Int) ≤ ρ 30 ∧ ρ 30 ≤ 3 := r30
  have r31 : (0 : Int) ≤ ρ 31 ∧ ρ 31 ≤ 1999 := r31
  have r32 : (1 : Int) ≤ ρ 32 ∧ ρ 32 ≤ 12 := r32
  have r33 : (0 : Int) ≤ ρ 33 ∧ ρ 33 ≤ 4 := r33
  have r34 : (0 : Int) ≤ ρ 34 ∧ ρ 34 ≤ 2000 := r34
  have r35 : ((-1) : Int) ≤ ρ 35 ∧ ρ 35 ≤ (-1) := r35
  obtain ⟨f0, f1, f2, f3, f4, f5, f6, f7, f8, f9, f10, f11, f12, f13, f14, f15, f16, f17, f18, f19, f20, -⟩ := hf
  have f0 : (0 : Int) ≤ -ρ 32 + -ρ 31 + 2000 := f0
  have f1 : (0 : Int) ≤ -ρ 35 + ρ 3 + (-1) := f1
  have f2 : (0 : Int) ≤ -ρ 34 + ρ 2 := f2
  have f3 : (0 : Int) ≤ ρ 34 + -ρ 2 := f3
  have f4 : (0 : Int) ≤ -ρ 22 + ρ 2 := f4
  have f5 : (0 : Int) ≤ ρ 34 + -ρ 22 := f5
  have f6 : (0 : Int) ≤ -ρ 2 + -ρ 0 + 12288 := f6
  have f7 : (0 : Int) ≤ -ρ 2 + -ρ 1 + 12288 := f7
  have f8 : (0 : Int) ≤ -ρ 31 + ρ 22 + (-1) := f8
  have f9 : (0 : Int) ≤ -ρ 32 + ρ 22 + (-1) := f9
  have f10 : (0 : Int) ≤ -ρ 33 + ρ 22 + (-1) := f10
  have f11 : (0 : Int) ≤ ρ 23 + -ρ 0 := f11
  have f12 : (0 : Int) ≤ ρ 24 + -ρ 1 := f12
  have f13 : (0 : Int) ≤ ρ 26 + -ρ 25 := f13
  have f14 : (0 : Int) ≤ ρ 33 + -ρ 25 := f14
  have f15 : (0 : Int) ≤ -ρ 25 + ρ 2 + (-1) := f15
  have f16 : (0 : Int) ≤ -ρ 30 + ρ 2 := f16
  have f17 : (0 : Int) ≤ -ρ 12 + ρ 2 := f17
  have f18 : (0 : Int) ≤ -ρ 23 + (ρ 22 + ρ 0) := f18
  have f19 : (0 : Int) ≤ -ρ 24 + (ρ 22 + ρ 1) := f19
  have f20 : (0 : Int) ≤ 3 * ρ 27 + -ρ 26 + 4 := f20
  obtain ⟨m0, m1, m2, m3, m4, m5, m6, m7, m8, m9, m10, m11, m12, m13, m14, m15, m16, m17, m18, m19, m20, m21, m22, m23, m24, m25, m26, m27, m28, m29, m30, m31, m32, m33, m34, m35, m36, m37, m38, m39, m40, m41, m42, m43, -⟩ := hm
  have m0 : γ 0 15 0 8 = ρ 0 := m0
  have m1 : γ 0 15 0 9 = ρ 1 := m1
  have m2 : γ 0 15 0 3 = ρ 2 := m2
  have m3 : γ 0 15 0 13 = ρ 3 := m3
  have m4 : γ 0 15 0 59 = ρ 4 := m4
  have m5 : γ 0 15 0 0 = ρ 5 := m5
  have m6 : γ 0 15 0 14 = ρ 6 := m6
  have m7 : γ 0 15 0 34 = ρ 7 := m7
  have m8 : γ 0 15 0 35 = ρ 8 := m8
  have m9 : γ 0 15 0 36 = ρ 9 := m9
  have m10 : γ 0 15 0 37 = ρ 10 := m10
  have m11 : γ 0 15 0 38 = ρ 11 := m11
  have m12 : γ 0 15 0 40 = ρ 12 := m12
  have m13 : γ 0 15 0 44 = ρ 13 := m13
  have m14 : γ 0 15 0 45 = ρ 14 := m14
  have m15 : γ 0 15 0 46 = ρ 15 := m15
  have m16 : γ 0 15 0 47 = ρ 16 := m16
  have m17 : γ 0 15 0 48 = ρ 17 := m17
  have m18 : γ 0 15 0 49 = ρ 18 := m18
  have m19 : γ 0 15 0 50 = ρ 19 := m19
  have m20 : γ 0 15 0 58 = ρ 20 := m20
  have m21 : γ 0 15 0 71 = ρ 21 := m21
  have m22 : γ 1 15 0 3 = 0 := m22
  have m23 : γ 1 15 0 34 = ρ 2 := m23
  have m24 : γ 1 15 0 35 = 0 := m24
  have m25 : γ 2 15 0 0 = 0 := m25
  have m26 : γ 4 15 0 44 = 61 := m26
  have m27 : γ 4 15 0 45 = 0 := m27
  have m28 : γ 4 15 0 58 = 0 := m28
  have m29 : γ 5 15 0 35 = ρ 22 := m29
  have m30 : γ 5 15 0 8 = ρ 23 := m30
  have m31 : γ 5 15 0 9 = ρ 24 := m31
  have m32 : γ 5 15 0 58 = ρ 25 := m32
  have m33 : γ 5 15 0 49 = ρ 26 := m33
  have m34 : γ 5 15 0 50 = ρ 27 := m34
  have m35 : γ 5 15 0 36 = ρ 9 := m35
  have m36 : γ 5 15 0 37 = ρ 28 := m36
  have m37 : γ 5 15 0 38 = ρ 29 := m37
  have m38 : γ 5 15 0 40 = ρ 30 := m38
  have m39 : γ 5 15 0 46 = ρ 31 := m39
  have m40 : γ 5 15 0 47 = ρ 32 := m40
  have m41 : γ 5 15 0 48 = ρ 33 := m41
  have m42 : γ 6 15 0 36 = ρ 9 := m42
  have m43 : γ 7 15 0 35 = ρ 34 := m43
  obtain ⟨⟨⟨⟨⟨⟨⟨⟨-, c1⟩, c2⟩, c3⟩, c4⟩, c5⟩, c6⟩, c7⟩, c8⟩ := hc
  have c1 : ∀ (G : Nat) (k j : Int), ¬ rMdP m5_ G j → γ 1 G k j = γ 0 G k j := c1
  have c2 : ∀ (G : Nat) (k j : Int), ¬ rMdP m1_ G j → γ 2 G k j = γ 1 G k j := c2
  have c3 : γ 3 = rUp (γ 2) 15 0 14 (ρ 3) := c3
  have c4 : ∀ (G : Nat) (k j : Int), ¬ rMdP m22_ G j → γ 4 G k j = γ 3 G k j := c4
  have c5 : ∀ (G : Nat) (k j : Int), ¬ rMdP m20_ G j → γ 5 G k j = γ 4 G k j := c5
  have c6 : ∀ (G : Nat) (k j : Int), ¬ rMdP m7_ G j → γ 6 G k j = γ 5 G k j := c6
  have c7 : ∀ (G : Nat) (k j : Int), ¬ rMdP m6_ G j → γ 7 G k j = γ 6 G k j := c7
  have c8 : ∀ (G : Nat) (k j : Int), ¬ rMdP m0_ G j → γ 8 G k j = γ 7 G k j := c8
  obtain ⟨l0, l1, l2, l3, l4, l5, l6, -⟩ := hl
  have l0 : sn5 [ρ 2, ρ 7, ρ 8] (γ 0) 0 0 (γ 1) := hS5 _ _ _ _ _ l0
  have l1 : sn1 [0, ρ 5] (γ 1) 0 0 (γ 2) := hS1 _ _ _ _ _ l1
  have l2 : sn32 [61, ρ 13, ρ 14, ρ 20] (γ 3) 0 0 (γ 4) := hS32 _ _ _ _ _ l2
  have l3 : sn27 [0, ρ 2, ρ 0, ρ 1, 0, ρ 18, ρ 19, ρ 9, ρ 10, ρ 11, ρ 12, 61, 0, ρ 15, ρ 16, ρ 17] (γ 4) 0 1 (γ 5) := hS27 _ _ _ _ _ l3
  have l4 : sn31 [ρ 2, ρ 9, ρ 33] (γ 5) 0 1 (γ 6) := hS31 _ _ _ _ _ l4
  have l5 : sn7 [ρ 22, ρ 2] (γ 6) 0 0 (γ 7) := hS7 _ _ _ _ _ l5
  have l6 : sn21 [ρ 31, ρ 32, ρ 33, ρ 3] (γ 7) 0 (ρ 35) (γ 8) := hS21 _ _ _ _ _ l6
  show sr90 [ρ 0, ρ 1, ρ 2, ρ 3, ρ 4, ρ 5, ρ 6, ρ 7, ρ 8, ρ 9, ρ 10, ρ 11, ρ 12, ρ 13, ρ 14, ρ 15, ρ 16, ρ 17, ρ 18, ρ 19, ρ 20, ρ 21] (γ 0) 0 (-1) (γ 8)
  have h7 : γ 0 15 0 59 ≠ 0 := by rw [m4]; omega
  have e1 : γ 1 = (fn5 [] (γ 0)).2.2 := congrArg (fun r : zR => r.2.2) l0
  have e2 : γ 2 = rUp (γ 1) 15 0 0 0 := congrArg (fun r : zR => r.2.2) l1
  have e4 : γ 4 = (fn32 [61] (γ 3)).2.2 := congrArg (fun r : zR => r.2.2) l2
  have e5 : γ 5 = (fn27 [] (γ 4)).2.2 := congrArg (fun r : zR => r.2.2) l3
  have hb : hG1 (γ 0) = γ 5 := by
    unfold hG1
    rw [if_pos h7, ← e1, ← e2, m3, ← c3, ← e4, ← e5]
  show eqM (hG1 (γ 0)) (γ 8)
  rw [hb]
  exact (eqM_tr (eqM_k (ms := m7_) (by decide +kernel) c6) (eqM_tr (eqM_k (ms := m6_) (by decide +kernel) c7) (eqM_k (ms := m0_) (by decide +kernel) c8)))
theorem wn90_4 {S : Nat → zSpc} (hS1 : ∀ x g o v gz, S 1 x g o v gz → sn1 x g o v gz) (hS5 : ∀ x g o v gz, S 5 x g o v gz → sn5 x g o v gz) (hS7 : ∀ x g o v gz, S 7 x g o v gz → sn7 x g o v gz) (hS8 : ∀ x g o v gz, S 8 x g o v gz → sn8 x g o v gz) (hS21 : ∀ x g o v gz, S 21 x g o v gz → sn21 x g o v gz) (hS27 : ∀ x g o v gz, S 27 x g o v gz → sn27 x g o v gz) (hS31 : ∀ x g o v gz, S 31 x g o v gz → sn31 x g o v gz) (hS32 : ∀ x g o v gz, S 32 x g o v gz → sn32 x g o v gz) {a : List Int} {g : rHp} : ∀ (ρ : Nat → Int) (γ : Nat → rHp), zO 22 S a g q90_4 ρ γ → zGl (fun i vs g1 => jr90 a g i vs g1) (sr90 a g) q90_4 ρ γ := by
  intro ρ γ h
  obtain ⟨ha, hg, hr, hf, hm, hc, hl⟩ := h
  have ha : a = [ρ 0, ρ 1, ρ 2, ρ 3, ρ 4, ρ 5, ρ 6, ρ 7, ρ 8, ρ 9, ρ 10, ρ 11, ρ 12, ρ 13, ρ 14, ρ 15, ρ 16, ρ 17, ρ 18, ρ 19, ρ 20, ρ 21] := ha
  subst ha
  subst hg
  obtain ⟨r0, r1, r2, r3, r4, r5, r6, r7, r8, r9, r10, r11, r12, r13, r14, r15, r16, r17, r18, r19, r20, r21, r22, r23, r24, r25, r26, r27, r28, r29, r30, r31, r32, r33, r34, r35, -⟩ := hr
  have r0 : (0 : Int) ≤ ρ 0 ∧ ρ 0 ≤ 12288 := r0
  have r1 : (0 : Int) ≤ ρ 1 ∧ ρ 1 ≤ 12288 := r1
  have r2 : (1 : Int) ≤ ρ 2 ∧ ρ 2 ≤ 2000 := r2
  have r3 : (0 : Int) ≤ ρ 3 ∧ ρ 3 ≤ 20 := r3
  have r4 : (1 : Int) ≤ ρ 4 ∧ ρ 4 ≤ 1 := r4
  have r5 : (0 : Int) ≤ ρ 5 ∧ ρ 5 ≤ 3 := r5
  have r6 : (0 : Int) ≤ ρ 6 ∧ ρ 6 ≤ 20 := r6
  have r7 : (0 : Int) ≤ ρ 7 ∧ ρ 7 ≤ 2000 := r7
  have r8 : (0 : Int) ≤ ρ 8 ∧ ρ 8 ≤ 2000 := r8
  have r9 : (0 : Int) ≤ ρ 9 ∧ ρ 9 ≤ 2000 := r9
  have r10 : (0 : Int) ≤ ρ 10 ∧ ρ 10 ≤ 2000 := r10
  have r11 : (0 : Int) ≤ ρ 11 ∧ ρ 11 ≤ 2000 := r11
  have r12 : (0 : Int) ≤ ρ 12 ∧ ρ 12 ≤ 3 := r12
  have r13 : (0 : Int) ≤ ρ 13 ∧ ρ 13 ≤ 61 := r13
  have r14 : ((-2147483648) : Int) ≤ ρ 14 ∧ ρ 14 ≤ 2147483647 := r14
  have r15 : (0 : Int) ≤ ρ 15 ∧ ρ 15 ≤ 2000 := r15
  have r16 : (0 : Int) ≤ ρ 16 ∧ ρ 16 ≤ 12 := r16
  have r17 : (0 : Int) ≤ ρ 17 ∧ ρ 17 ≤ 4 := r17
  have r18 : (0 : Int) ≤ ρ 18 ∧ ρ 18 ≤ 4 := r18
  have r19 : ((-1) : Int) ≤ ρ 19 ∧ ρ 19 ≤ 7 := r19
  have r20 : (0 : Int) ≤ ρ 20 ∧ ρ 20 ≤ 64 := r20
  have r21 : (0 : Int) ≤ ρ 21 ∧ ρ 21 ≤ 2000 := r21
  have r22 : (3 : Int) ≤ ρ 22 ∧ ρ 22 ≤ 2000 := r22
  have r23 : (0 : Int) ≤ ρ 23 ∧ ρ 23 ≤ 12288 := r23
  have r24 : (0 : Int) ≤ ρ 24 ∧ ρ 24 ≤ 12288 := r24
  have r25 : (0 : Int) ≤ ρ 25 ∧ ρ 25 ≤ 1 := r25
  have r26 : (0 : Int) ≤ ρ 26 ∧ ρ 26 ≤ 4 := r26
  have r27 : ((-1) : Int) ≤ ρ 27 ∧ ρ 27 ≤ 7 := r27
  have r28 : (0 : Int) ≤ ρ 28 ∧ ρ 28 ≤ 2000 := r28
  have r29 : (0 : Int) ≤ ρ 29 ∧ ρ 29 ≤ 2000 := r29
  have r30 : (0 : Int) ≤ ρ 30 ∧ ρ 30 ≤ 3 := r30
  have r31 : (0 : Int) ≤ ρ 31 ∧ ρ 31 ≤ 1999 := r31
  have r32 : (1 : Int) ≤ ρ 32 ∧ ρ 32 ≤ 12 := r32
  have r33 : (0 : Int) ≤ ρ 33 ∧ ρ 33 ≤ 4 := r33
  have r34 : (0 : Int) ≤ ρ 34 ∧ ρ 34 ≤ 2000 := r34
  have r35 : (0 : Int) ≤ ρ 35 ∧ ρ 35 ≤ 2000 := r35
  obtain ⟨f0, f1, f2, f3, f4, f5, f6, f7, f8, f9, f10, f11, f12, f13, f14, f15, f16, f17, f18, f19, f20, -⟩ := hf
  have f0 : (0 : Int) ≤ -ρ 35 + ρ 34 := f0
  have f1 : (0 : Int) ≤ -ρ 35 + ρ 2 := f1
  have f2 : (0 : Int) ≤ -ρ 34 + ρ 2 + (-1) := f2
  have f3 : (0 : Int) ≤ -ρ 22 + ρ 2 := f3
  have f4 : (0 : Int) ≤ ρ 34 + -ρ 22 := f4
  have f5 : (0 : Int) ≤ -ρ 34 + ρ 2 := f5
  have f6 : (0 : Int) ≤ -ρ 2 + -ρ 0 + 12288 := f6
  have f7 : (0 : Int) ≤ -ρ 2 + -ρ 1 + 12288 := f7
  have f8 : (0 : Int) ≤ -ρ 31 + ρ 22 + (-1) := f8
  have f9 : (0 : Int) ≤ -ρ 32 + ρ 22 + (-1) := f9
  have f10 : (0 : Int) ≤ -ρ 33 + ρ 22 + (-1) := f10
  have f11 : (0 : Int) ≤ ρ 23 + -ρ 0 := f11
  have f12 : (0 : Int) ≤ ρ 24 + -ρ 1 := f12
  have f13 : (0 : Int) ≤ ρ 26 + -ρ 25 := f13
  have f14 : (0 : Int) ≤ ρ 33 + -ρ 25 := f14
  have f15 : (0 : Int) ≤ -ρ 25 + ρ 2 + (-1) := f15
  have f16 : (0 : Int) ≤ -ρ 30 + ρ 2 := f16
  have f17 : (0 : Int) ≤ -ρ 12 + ρ 2 := f17
  have f18 : (0 : Int) ≤ -ρ 23 + (ρ 22 + ρ 0) := f18
  have f19 : (0 : Int) ≤ -ρ 24 + (ρ 22 + ρ 1) := f19
  have f20 : (0 : Int) ≤ 3 * ρ 27 + -ρ 26 + 4 := f20
  obtain ⟨m0, m1, m2, m3, m4, m5, m6, m7, m8, m9, m10, m11, m12, m13, m14, m15, m16, m17, m18, m19, m20, m21, m22, m23, m24, m25, m26, m27, m28, m29, m30, m31, m32, m33, m34, m35, m36, m37, m38, m39, m40, m41, m42, m43, m44, -⟩ := hm
  have m0 : γ 0 15 0 8 = ρ 0 := m0
  have m1 : γ 0 15 0 9 = ρ 1 := m1
  have m2 : γ 0 15 0 3 = ρ 2 := m2
  have m3 : γ 0 15 0 13 = ρ 3 := m3
  have m4 : γ 0 15 0 59 = ρ 4 := m4
  have m5 : γ 0 15 0 0 = ρ 5 := m5
  have m6 : γ 0 15 0 14 = ρ 6 := m6
  have m7 : γ 0 15 0 34 = ρ 7 := m7
  have m8 : γ 0 15 0 35 = ρ 8 := m8
  have m9 : γ 0 15 0 36 = ρ 9 := m9
  have m10 : γ 0 15 0 37 = ρ 10 := m10
  have m11 : γ 0 15 0 38 = ρ 11 := m11
  have m12 : γ 0 15 0 40 = ρ 12 := m12
  have m13 : γ 0 15 0 44 = ρ 13 := m13
  have m14 : γ 0 15 0 45 = ρ 14 := m14
  have m15 : γ 0 15 0 46 = ρ 15 := m15
  have m16 : γ 0 15 0 47 = ρ 16 := m16
  have m17 : γ 0 15 0 48 = ρ 17 := m17
  have m18 : γ 0 15 0 49 = ρ 18 := m18
  have m19 : γ 0 15 0 50 = ρ 19 := m19
  have m20 : γ 0 15 0 58 = ρ 20 := m20
  have m21 : γ 0 15 0 71 = ρ 21 := m21
  have m22 : γ 1 15 0 3 = 0 := m22
  have m23 : γ 1 15 0 34 = ρ 2 := m23
  have m24 : γ 1 15 0 35 = 0 := m24
  have m25 : γ 2 15 0 0 = 0 := m25
  have m26 : γ 4 15 0 44 = 61 := m26
  have m27 : γ 4 15 0 45 = 0 := m27
  have m28 : γ 4 15 0 58 = 0 := m28
  have m29 : γ 5 15 0 35 = ρ 22 := m29
  have m30 : γ 5 15 0 8 = ρ 23 := m30
  have m31 : γ 5 15 0 9 = ρ 24 := m31
  have m32 : γ 5 15 0 58 = ρ 25 := m32
  have m33 : γ 5 15 0 49 = ρ 26 := m33
  have m34 : γ 5 15 0 50 = ρ 27 := m34
  have m35 : γ 5 15 0 36 = ρ 9 := m35
  have m36 : γ 5 15 0 37 = ρ 28 := m36
  have m37 : γ 5 15 0 38 = ρ 29 := m37
  have m38 : γ 5 15 0 40 = ρ 30 := m38
  have m39 : γ 5 15 0 46 = ρ 31 := m39
  have m40 : γ 5 15 0 47 = ρ 32 := m40
  have m41 : γ 5 15 0 48 = ρ 33 := m41
  have m42 : γ 6 15 0 36 = ρ 9 := m42
  have m43 : γ 7 15 0 35 = ρ 34 := m43
  have m44 : γ 8 15 0 36 = ρ 35 := m44
  obtain ⟨⟨⟨⟨⟨⟨⟨⟨-, c1⟩, c2⟩, c3⟩, c4⟩, c5⟩, c6⟩, c7⟩, c8⟩ := hc
  have c1 : ∀ (G : Nat) (k j : Int), ¬ rMdP m5_ G j → γ 1 G k j = γ 0 G k j := c1
  have c2 : ∀ (G : Nat) (k j : Int), ¬ rMdP m1_ G j → γ 2 G k j = γ 1 G k j := c2
  have c3 : γ 3 = rUp (γ 2) 15 0 14 (ρ 3) := c3
  have c4 : ∀ (G : Nat) (k j : Int), ¬ rMdP m22_ G j → γ 4 G k j = γ 3 G k j := c4
  have c5 : ∀ (G : Nat) (k j : Int), ¬ rMdP m20_ G j → γ 5 G k j = γ 4 G k j := c5
  have c6 : ∀ (G : Nat) (k j : Int), ¬ rMdP m7_ G j → γ 6 G k j = γ 5 G k j := c6
  have c7 : ∀ (G : Nat) (k j : Int), ¬ rMdP m6_ G j → γ 7 G k j = γ 6 G k j := c7
  have c8 : ∀ (G : Nat) (k j : Int), ¬ rMdP m7_ G j → γ 8 G k j = γ 7 G k j := c8
  obtain ⟨l0, l1, l2, l3, l4, l5, l6, -⟩ := hl
  have l0 : sn5 [ρ 2, ρ 7, ρ 8] (γ 0) 0 0 (γ 1) := hS5 _ _ _ _ _ l0
  have l1 : sn1 [0, ρ 5] (γ 1) 0 0 (γ 2) := hS1 _ _ _ _ _ l1
  have l2 : sn32 [61, ρ 13, ρ 14, ρ 20] (γ 3) 0 0 (γ 4) := hS32 _ _ _ _ _ l2
  have l3 : sn27 [0, ρ 2, ρ 0, ρ 1, 0, ρ 18, ρ 19, ρ 9, ρ 10, ρ 11, ρ 12, 61, 0, ρ 15, ρ 16, ρ 17] (γ 4) 0 1 (γ 5) := hS27 _ _ _ _ _ l3
  have l4 : sn31 [ρ 2, ρ 9, ρ 33] (γ 5) 0 1 (γ 6) := hS31 _ _ _ _ _ l4
  have l5 : sn7 [ρ 22, ρ 2] (γ 6) 0 0 (γ 7) := hS7 _ _ _ _ _ l5
  have l6 : sn8 [ρ 34, ρ 2, ρ 9] (γ 7) 0 0 (γ 8) := hS8 _ _ _ _ _ l6
  show sr90 [ρ 0, ρ 1, ρ 2, ρ 3, ρ 4, ρ 5, ρ 6, ρ 7, ρ 8, ρ 9, ρ 10, ρ 11, ρ 12, ρ 13, ρ 14, ρ 15, ρ 16, ρ 17, ρ 18, ρ 19, ρ 20, ρ 21] (γ 0) 0 (-ρ 35 + (-2)) (γ 8)
  have h7 : γ 0 15 0 59 ≠ 0 := by rw [m4]; omega
  have e1 : γ 1 = (fn5 [] (γ 0)).2.2 := congrArg (fun r : zR => r.2.2) l0
  have e2 : γ 2 = rUp (γ 1) 15 0 0 0 := congrArg (fun r : zR => r.2.2) l1
  have e4 : γ 4 = (fn32 [61] (γ 3)).2.2 := congrArg (fun r : zR => r.2.2) l2
  have e5 : γ 5 = (fn27 [] (γ 4)).2.2 := congrArg (fun r : zR => r.2.2) l3
  have hb : hG1 (γ 0) = γ 5 := by
    unfold hG1
    rw [if_pos h7, ← e1, ← e2, m3, ← c3, ← e4, ← e5]
  show eqM (hG1 (γ 0)) (γ 8)
  rw [hb]
  exact (eqM_tr (eqM_k (ms := m7_) (by decide +kernel) c6) (eqM_tr (eqM_k (ms := m6_) (by decide +kernel) c7) (eqM_k (ms := m7_) (by decide +kernel) c8)))
theorem wn90_5 {S : Nat → zSpc} (hS1 : ∀ x g o v gz, S 1 x g o v gz → sn1 x g o v gz) (hS5 : ∀ x g o v gz, S 5 x g o v gz → sn5 x g o v gz) (hS7 : ∀ x g o v gz, S 7 x g o v gz → sn7 x g o v gz) (hS8 : ∀ x g o v gz, S 8 x g o v gz → sn8 x g o v gz) (hS21 : ∀ x g o v gz, S 21 x g o v gz → sn21 x g o v gz) (hS27 : ∀ x g o v gz, S 27 x g o v gz → sn27 x g o v gz) (hS31 : ∀ x g o v gz, S 31 x g o v gz → sn31 x g o v gz) (hS32 : ∀ x g o v gz, S 32 x g o v gz → sn32 x g o v gz) {a : List Int} {g : rHp} : ∀ (ρ : Nat → Int) (γ : Nat → rHp), zO 22 S a g q90_5 ρ γ → zGl (fun i vs g1 => jr90 a g i vs g1) (sr90 a g) q90_5 ρ γ := by
  intro ρ γ h
  obtain ⟨ha, hg, hr, hf, hm, hc, hl⟩ := h
  have ha : a = [ρ 0, ρ 1, ρ 2, ρ 3, ρ 4, ρ 5, ρ 6, ρ 7, ρ 8, ρ 9, ρ 10, ρ 11, ρ 12, ρ 13, ρ 14, ρ 15, ρ 16, ρ 17, ρ 18, ρ 19, ρ 20, ρ 21] := ha
  subst ha
  subst hg
  obtain ⟨r0, r1, r2, r3, r4, r5, r6, r7, r8, r9, r10, r11, r12, r13, r14, r15, r16, r17, r18, r19, r20, r21, -⟩ := hr
  have r0 : (0 : Int) ≤ ρ 0 ∧ ρ 0 ≤ 12288 := r0
  have r1 : (0 : Int) ≤ ρ 1 ∧ ρ 1 ≤ 12288 := r1
  have r2 : (0 : Int) ≤ ρ 2 ∧ ρ 2 ≤ 2000 := r2
  have r3 : (0 : Int) ≤ ρ 3 ∧ ρ 3 ≤ 20 := r3
  have r4 : (0 : Int) ≤ ρ 4 ∧ ρ 4 ≤ 0 := r4
  have r5 : (0 : Int) ≤ ρ 5 ∧ ρ 5 ≤ 3 := r5
  have r6 : (0 : Int) ≤ ρ 6 ∧ ρ 6 ≤ 20 := r6
  have r7 : (0 : Int) ≤ ρ 7 ∧ ρ 7 ≤ 2000 := r7
  have r8 : (0 : Int) ≤ ρ 8 ∧ ρ 8 ≤ 2000 := r8
  have r9 : (0 : Int) ≤ ρ 9 ∧ ρ 9 ≤ 2000 := r9
  have r10 : (0 : Int) ≤ ρ 10 ∧ ρ 10 ≤ 2000 := r10
  have r11 : (0 : Int) ≤ ρ 11 ∧ ρ 11 ≤ 2000 := r11
  have r12 : (0 : Int) ≤ ρ 12 ∧ ρ 12 ≤ 3 := r12
  have r13 : (0 : Int) ≤ ρ 13 ∧ ρ 13 ≤ 61 := r13
  have r14 : ((-2147483648) : Int) ≤ ρ 14 ∧ ρ 14 ≤ 2147483647 := r14
  have r15 : (0 : Int) ≤ ρ 15 ∧ ρ 15 ≤ 2000 := r15
  have r16 : (0 : Int) ≤ ρ 16 ∧ ρ 16 ≤ 12 := r16
  have r17 : (0 : Int) ≤ ρ 17 ∧ ρ 17 ≤ 4 := r17
  have r18 : (0 : Int) ≤ ρ 18 ∧ ρ 18 ≤ 4 := r18
  have r19 : ((-1) : Int) ≤ ρ 19 ∧ ρ 19 ≤ 7 := r19
  have r20 : (0 : Int) ≤ ρ 20 ∧ ρ 20 ≤ 64 := r20
  have r21 : (0 : Int) ≤ ρ 21 ∧ ρ 21 ≤ 2000 := r21
  obtain ⟨f0, f1, -⟩ := hf
  have f0 : (0 : Int) ≤ -ρ 2 + -ρ 1 + 12288 := f0
  have f1 : (0 : Int) ≤ -ρ 2 + -ρ 0 + 12288 := f1
  obtain ⟨m0, m1, m2, m3, m4, m5, m6, m7, m8, m9, m10, m11, m12, m13, m14, m15, m16, m17, m18, m19, m20, m21, m22, m23, m24, m25, -⟩ := hm
  have m0 : γ 0 15 0 8 = ρ 0 := m0
  have m1 : γ 0 15 0 9 = ρ 1 := m1
  have m2 : γ 0 15 0 3 = ρ 2 := m2
  have m3 : γ 0 15 0 13 = ρ 3 := m3
  have m4 : γ 0 15 0 59 = ρ 4 := m4
  have m5 : γ 0 15 0 0 = ρ 5 := m5
  have m6 : γ 0 15 0 14 = ρ 6 := m6
  have m7 : γ 0 15 0 34 = ρ 7 := m7
  have m8 : γ 0 15 0 35 = ρ 8 := m8
  have m9 : γ 0 15 0 36 = ρ 9 := m9
  have m10 : γ 0 15 0 37 = ρ 10 := m10
  have m11 : γ 0 15 0 38 = ρ 11 := m11
  have m12 : γ 0 15 0 40 = ρ 12 := m12
  have m13 : γ 0 15 0 44 = ρ 13 := m13
  have m14 : γ 0 15 0 45 = ρ 14 := m14
  have m15 : γ 0 15 0 46 = ρ 15 := m15
  have m16 : γ 0 15 0 47 = ρ 16 := m16
  have m17 : γ 0 15 0 48 = ρ 17 := m17
  have m18 : γ 0 15 0 49 = ρ 18 := m18
  have m19 : γ 0 15 0 50 = ρ 19 := m19
  have m20 : γ 0 15 0 58 = ρ 20 := m20
  have m21 : γ 0 15 0 71 = ρ 21 := m21
  have m22 : γ 1 15 0 3 = 0 := m22
  have m23 : γ 1 15 0 34 = ρ 2 := m23
  have m24 : γ 1 15 0 35 = 0 := m24
  have m25 : γ 2 15 0 0 = 1 := m25
  obtain ⟨⟨-, c1⟩, c2⟩ := hc
  have c1 : ∀ (G : Nat) (k j : Int), ¬ rMdP m5_ G j → γ 1 G k j = γ 0 G k j := c1
  have c2 : ∀ (G : Nat) (k j : Int), ¬ rMdP m1_ G j → γ 2 G k j = γ 1 G k j := c2
  obtain ⟨l0, l1, -⟩ := hl
  have l0 : sn5 [ρ 2, ρ 7, ρ 8] (γ 0) 0 0 (γ 1) := hS5 _ _ _ _ _ l0
  have l1 : sn1 [1, ρ 5] (γ 1) 0 1 (γ 2) := hS1 _ _ _ _ _ l1
  show sr90 [ρ 0, ρ 1, ρ 2, ρ 3, ρ 4, ρ 5, ρ 6, ρ 7, ρ 8, ρ 9, ρ 10, ρ 11, ρ 12, ρ 13, ρ 14, ρ 15, ρ 16, ρ 17, ρ 18, ρ 19, ρ 20, ρ 21] (γ 0) 0 0 (γ 2)
  have h7 : ¬ γ 0 15 0 59 ≠ 0 := by rw [m4]; omega
  have e1 : γ 1 = (fn5 [] (γ 0)).2.2 := congrArg (fun r : zR => r.2.2) l0
  have e2 : γ 2 = rUp (γ 1) 15 0 0 1 := congrArg (fun r : zR => r.2.2) l1
  have hb : hG1 (γ 0) = γ 2 := by
    unfold hG1
    rw [if_neg h7, ← e1, ← e2]
  show eqM (hG1 (γ 0)) (γ 2)
  rw [hb]
  exact eqM_rf
theorem wn90a0_0 {S : Nat → zSpc} (hS1 : ∀ x g o v gz, S 1 x g o v gz → sn1 x g o v gz) (hS5 : ∀ x g o v gz, S 5 x g o v gz → sn5 x g o v gz) (hS7 : ∀ x g o v gz, S 7 x g o v gz → sn7 x g o v gz) (hS8 : ∀ x g o v gz, S 8 x g o v gz → sn8 x g o v gz) (hS21 : ∀ x g o v gz, S 21 x g o v gz → sn21 x g o v gz) (hS27 : ∀ x g o v gz, S 27 x g o v gz → sn27 x g o v gz) (hS31 : ∀ x g o v gz, S 31 x g o v gz → sn31 x g o v gz) (hS32 : ∀ x g o v gz, S 32 x g o v gz → sn32 x g o v gz) {a : List Int} {g : rHp} : ∀ (ρ : Nat → Int) (γ : Nat → rHp), jr90 a g 0 (zAg (zNA a90_ 0) ρ) (γ 1) → zO 22 S a g q90a0_0 ρ γ → zGl (fun i vs g1 => jr90 a g i vs g1) (sr90 a g) q90a0_0 ρ γ := by
  intro ρ γ hJ h
  obtain ⟨ha, hg, hr, hf, hm, hc, hl⟩ := h
  have ha : a = [ρ 0, ρ 1, ρ 2, ρ 3, ρ 4, ρ 5, ρ 6, ρ 7, ρ 8, ρ 9, ρ 10, ρ 11, ρ 12, ρ 13, ρ 14, ρ 15, ρ 16, ρ 17, ρ 18, ρ 19, ρ 20, ρ 21] := ha
  subst ha
  subst hg
  have hJ : jr90 [ρ 0, ρ 1, ρ 2, ρ 3, ρ 4, ρ 5, ρ 6, ρ 7, ρ 8, ρ 9, ρ 10, ρ 11, ρ 12, ρ 13, ρ 14, ρ 15, ρ 16, ρ 17, ρ 18, ρ 19, ρ 20, ρ 21] (γ 0) 0 [ρ 0, ρ 1, ρ 2, ρ 3, ρ 4, ρ 5, ρ 6, ρ 7, ρ 8, ρ 9, ρ 10, ρ 11, ρ 12, ρ 13, ρ 14, ρ 15, ρ 16, ρ 17, ρ 18, ρ 19, ρ 20, ρ 21, ρ 22, ρ 23, ρ 24, ρ 25, ρ 26, ρ 27, ρ 28, ρ 29, ρ 30, ρ 31, ρ 32, ρ 33, ρ 34, ρ 35, ρ 36, ρ 37, ρ 38] (γ 1) := hJ
  obtain ⟨r0, r1, r2, r3, r4, r5, r6, r7, r8, r9, r10, r11, r12, r13, r14, r15, r16, r17, r18, r19, r20, r21, r22, r23, r24, r25, r26, r27, r28, r29, r30, r31, r32, r33, r34, r35, r36, r37, r38, r39, -⟩ := hr
  have r0 : (0 : Int) ≤ ρ 0 ∧ ρ 0 ≤ 12288 := r0
  have r1 : (0 : Int) ≤ ρ 1 ∧ ρ 1 ≤ 12288 := r1
  have r2 : (3 : Int) ≤ ρ 2 ∧ ρ 2 ≤ 2000 := r2
  have r3 : (1 : Int) ≤ ρ 3 ∧ ρ 3 ≤ 20 := r3
  have r4 : (1 : Int) ≤ ρ 4 ∧ ρ 4 ≤ 1 := r4
  have r5 : (0 : Int) ≤ ρ 5 ∧ ρ 5 ≤ 3 := r5
  have r6 : (0 : Int) ≤ ρ 6 ∧ ρ 6 ≤ 20 := r6
  have r7 : (0 : Int) ≤ ρ 7 ∧ ρ 7 ≤ 2000 := r7
  have r8 : (0 : Int) ≤ ρ 8 ∧ ρ 8 ≤ 2000 := r8
  have r9 : (0 : Int) ≤ ρ 9 ∧ ρ 9 ≤ 2000 := r9
  have r10 : (0 : Int) ≤ ρ 10 ∧ ρ 10 ≤ 2000 := r10
  have r11 : (0 : Int) ≤ ρ 11 ∧ ρ 11 ≤ 2000 := r11
  have r12 : (0 : Int) ≤ ρ 12 ∧ ρ 12 ≤ 3 := r12
  have r13 : (0 : Int) ≤ ρ 13 ∧ ρ 13 ≤ 61 := r13
  have r14 : ((-2147483648) : Int) ≤ ρ 14 ∧ ρ 14 ≤ 2147483647 := r14
  have r15 : (0 : Int) ≤ ρ 15 ∧ ρ 15 ≤ 2000 := r15
  have r16 : (0 : Int) ≤ ρ 16 ∧ ρ 16 ≤ 12 := r16
  have r17 : (0 : Int) ≤ ρ 17 ∧ ρ 17 ≤ 4 := r17
  have r18 : (0 : Int) ≤ ρ 18 ∧ ρ 18 ≤ 4 := r18
  have r19 : ((-1) : Int) ≤ ρ 19 ∧ ρ 19 ≤ 7 := r19
  have r20 : (0 : Int) ≤ ρ 20 ∧ ρ 20 ≤ 64 := r20
  have r21 : (0 : Int) ≤ ρ 21 ∧ ρ 21 ≤ 2000 := r21
  have r22 : (0 : Int) ≤ ρ 22 ∧ ρ 22 ≤ 4 := r22
  have r23 : (0 : Int) ≤ ρ 23 ∧ ρ 23 ≤ 19 := r23
  have r24 : (0 : Int) ≤ ρ 24 ∧ ρ 24 ≤ 12288 := r24
  have r25 : (0 : Int) ≤ ρ 25 ∧ ρ 25 ≤ 12288 := r25
  have r26 : (0 : Int) ≤ ρ 26 ∧ ρ 26 ≤ 0 := r26
  have r27 : (0 : Int) ≤ ρ 27 ∧ ρ 27 ≤ 0 := r27
  have r28 : (0 : Int) ≤ ρ 28 ∧ ρ 28 ≤ 2000 := r28
  have r29 : (0 : Int) ≤ ρ 29 ∧ ρ 29 ≤ 2000 := r29
  have r30 : (0 : Int) ≤ ρ 30 ∧ ρ 30 ≤ 3 := r30
  have r31 : (61 : Int) ≤ ρ 31 ∧ ρ 31 ≤ 61 := r31
  have r32 : (0 : Int) ≤ ρ 32 ∧ ρ 32 ≤ 0 := r32
  have r33 : (0 : Int) ≤ ρ 33 ∧ ρ 33 ≤ 1999 := r33
  have r34 : (1 : Int) ≤ ρ 34 ∧ ρ 34 ≤ 12 := r34
  have r35 : (0 : Int) ≤ ρ 35 ∧ ρ 35 ≤ 4 := r35
  have r36 : (0 : Int) ≤ ρ 36 ∧ ρ 36 ≤ 4 := r36
  have r37 : ((-1) : Int) ≤ ρ 37 ∧ ρ 37 ≤ 7 := r37
  have r38 : (0 : Int) ≤ ρ 38 ∧ ρ 38 ≤ 1 := r38
  have r39 : ((-1) : Int) ≤ ρ 39 ∧ ρ 39 ≤ 1999 := r39
  obtain ⟨f0, f1, f2, f3, f4, f5, f6, f7, f8, f9, f10, f11, f12, f13, f14, f15, -⟩ := hf
  have f0 : (0 : Int) ≤ -ρ 23 + ρ 3 + (-1) := f0
  have f1 : (0 : Int) ≤ -ρ 39 + ρ 21 + (-1) := f1
  have f2 : (0 : Int) ≤ -ρ 35 + ρ 22 := f2
  have f3 : (0 : Int) ≤ -ρ 25 + (ρ 2 + ρ 1) := f3
  have f4 : (0 : Int) ≤ -ρ 24 + (ρ 2 + ρ 0) := f4
  have f5 : (0 : Int) ≤ -ρ 38 + ρ 36 := f5
  have f6 : (0 : Int) ≤ -ρ 38 + ρ 35 := f6
  have f7 : (0 : Int) ≤ ρ 35 + -ρ 22 := f7
  have f8 : (0 : Int) ≤ -ρ 35 + ρ 2 + (-1) := f8
  have f9 : (0 : Int) ≤ -ρ 34 + ρ 2 + (-1) := f9
  have f10 : (0 : Int) ≤ -ρ 33 + ρ 2 + (-1) := f10
  have f11 : (0 : Int) ≤ -ρ 22 + ρ 2 + (-1) := f11
  have f12 : (0 : Int) ≤ ρ 25 + -ρ 1 := f12
  have f13 : (0 : Int) ≤ ρ 24 + -ρ 0 := f13
  have f14 : (0 : Int) ≤ -ρ 2 + -ρ 1 + 12288 := f14
  have f15 : (0 : Int) ≤ -ρ 2 + -ρ 0 + 12288 := f15
  obtain ⟨m0, m1, m2, m3, m4, m5, m6, m7, m8, m9, m10, m11, m12, m13, m14, m15, m16, m17, m18, m19, m20, m21, m22, m23, m24, m25, m26, m27, m28, m29, m30, m31, m32, m33, m34, m35, m36, m37, m38, m39, m40, -⟩ := hm
  have m0 : γ 0 15 0 8 = ρ 0 := m0
  have m1 : γ 0 15 0 9 = ρ 1 := m1
  have m2 : γ 0 15 0 3 = ρ 2 := m2
  have m3 : γ 0 15 0 13 = ρ 3 := m3
  have m4 : γ 0 15 0 59 = ρ 4 := m4
  have m5 : γ 0 15 0 0 = ρ 5 := m5
  have m6 : γ 0 15 0 14 = ρ 6 := m6
  have m7 : γ 0 15 0 34 = ρ 7 := m7
  have m8 : γ 0 15 0 35 = ρ 8 := m8
  have m9 : γ 0 15 0 36 = ρ 9 := m9
  have m10 : γ 0 15 0 37 = ρ 10 := m10
  have m11 : γ 0 15 0 38 = ρ 11 := m11
  have m12 : γ 0 15 0 40 = ρ 12 := m12
  have m13 : γ 0 15 0 44 = ρ 13 := m13
  have m14 : γ 0 15 0 45 = ρ 14 := m14
  have m15 : γ 0 15 0 46 = ρ 15 := m15
  have m16 : γ 0 15 0 47 = ρ 16 := m16
  have m17 : γ 0 15 0 48 = ρ 17 := m17
  have m18 : γ 0 15 0 49 = ρ 18 := m18
  have m19 : γ 0 15 0 50 = ρ 19 := m19
  have m20 : γ 0 15 0 58 = ρ 20 := m20
  have m21 : γ 0 15 0 71 = ρ 21 := m21
  have m22 : γ 1 15 0 8 = ρ 24 := m22
  have m23 : γ 1 15 0 9 = ρ 25 := m23
  have m24 : γ 1 15 0 3 = ρ 26 := m24
  have m25 : γ 1 15 0 0 = ρ 27 := m25
  have m26 : γ 1 15 0 14 = ρ 3 := m26
  have m27 : γ 1 15 0 34 = ρ 2 := m27
  have m28 : γ 1 15 0 35 = ρ 2 := m28
  have m29 : γ 1 15 0 36 = ρ 9 := m29
  have m30 : γ 1 15 0 37 = ρ 28 := m30
  have m31 : γ 1 15 0 38 = ρ 29 := m31
  have m32 : γ 1 15 0 40 = ρ 30 := m32
  have m33 : γ 1 15 0 44 = ρ 31 := m33
  have m34 : γ 1 15 0 45 = ρ 32 := m34
  have m35 : γ 1 15 0 46 = ρ 33 := m35
  have m36 : γ 1 15 0 47 = ρ 34 := m36
  have m37 : γ 1 15 0 48 = ρ 35 := m37
  have m38 : γ 1 15 0 49 = ρ 36 := m38
  have m39 : γ 1 15 0 50 = ρ 37 := m39
  have m40 : γ 1 15 0 58 = ρ 38 := m40
  obtain ⟨⟨-, c1⟩, c2⟩ := hc
  have c1 : ∀ (G : Nat) (k j : Int), ¬ rMdP m61_ G j → γ 1 G k j = γ 0 G k j := c1
  have c2 : ∀ (G : Nat) (k j : Int), ¬ rMdP m0_ G j → γ 2 G k j = γ 1 G k j := c2
  obtain ⟨l0, -⟩ := hl
  show sr90 [ρ 0, ρ 1, ρ 2, ρ 3, ρ 4, ρ 5, ρ 6, ρ 7, ρ 8, ρ 9, ρ 10, ρ 11, ρ 12, ρ 13, ρ 14, ρ 15, ρ 16, ρ 17, ρ 18, ρ 19, ρ 20, ρ 21] (γ 0) 0 (ρ 39) (γ 2)
  exact eqM_tr hJ (eqM_k (ms := m0_) (by decide +kernel) c2)
theorem wn90a0_1 {S : Nat → zSpc} (hS1 : ∀ x g o v gz, S 1 x g o v gz → sn1 x g o v gz) (hS5 : ∀ x g o v gz, S 5 x g o v gz → sn5 x g o v gz) (hS7 : ∀ x g o v gz, S 7 x g o v gz → sn7 x g o v gz) (hS8 : ∀ x g o v gz, S 8 x g o v gz → sn8 x g o v gz) (hS21 : ∀ x g o v gz, S 21 x g o v gz → sn21 x g o v gz) (hS27 : ∀ x g o v gz, S 27 x g o v gz → sn27 x g o v gz) (hS31 : ∀ x g o v gz, S 31 x g o v gz → sn31 x g o v gz) (hS32 : ∀ x g o v gz, S 32 x g o v gz → sn32 x g o v gz) {a : List Int} {g : rHp} : ∀ (ρ : Nat → Int) (γ : Nat → rHp), jr90 a g 0 (zAg (zNA a90_ 0) ρ) (γ 1) → zO 22 S a g q90a0_1 ρ γ → zGl (fun i vs g1 => jr90 a g i vs g1) (sr90 a g) q90a0_1 ρ γ := by
  intro ρ γ hJ h
  obtain ⟨ha, hg, hr, hf, hm, hc, hl⟩ := h
  have ha : a = [ρ 0, ρ 1, ρ 2, ρ 3, ρ 4, ρ 5, ρ 6, ρ 7, ρ 8, ρ 9, ρ 10, ρ 11, ρ 12, ρ 13, ρ 14, ρ 15, ρ 16, ρ 17, ρ 18, ρ 19, ρ 20, ρ 21] := ha
  subst ha
  subst hg
  have hJ : jr90 [ρ 0, ρ 1, ρ 2, ρ 3, ρ 4, ρ 5, ρ 6, ρ 7, ρ 8, ρ 9, ρ 10, ρ 11, ρ 12, ρ 13, ρ 14, ρ 15, ρ 16, ρ 17, ρ 18, ρ 19, ρ 20, ρ 21] (γ 0) 0 [ρ 0, ρ 1, ρ 2, ρ 3, ρ 4, ρ 5, ρ 6, ρ 7, ρ 8, ρ 9, ρ 10, ρ 11, ρ 12, ρ 13, ρ 14, ρ 15, ρ 16, ρ 17, ρ 18, ρ 19, ρ 20, ρ 21, ρ 22, ρ 23, ρ 24, ρ 25, ρ 26, ρ 27, ρ 28, ρ 29, ρ 30, ρ 31, ρ 32, ρ 33, ρ 34, ρ 35, ρ 36, ρ 37, ρ 38] (γ 1) := hJ
  obtain ⟨r0, r1, r2, r3, r4, r5, r6, r7, r8, r9, r10, r11, r12, r13, r14, r15, r16, r17, r18, r19, r20, r21, r22, r23, r24, r25, r26, r27, r28, r29, r30, r31, r32, r33, r34, r35, r36, r37, r38, r39, -⟩ := hr
  have r0 : (0 : Int) ≤ ρ 0 ∧ ρ 0 ≤ 12288 := r0
  have r1 : (0 : Int) ≤ ρ 1 ∧ ρ 1 ≤ 12288 := r1
  have r2 : (3 : Int) ≤ ρ 2 ∧ ρ 2 ≤ 2000 := r2
  have r3 : (1 : Int) ≤ ρ 3 ∧ ρ 3 ≤ 20 := r3
  have r4 : (1 : Int) ≤ ρ 4 ∧ ρ 4 ≤ 1 := r4
  have r5 : (0 : Int) ≤ ρ 5 ∧ ρ 5 ≤ 3 := r5
  have r6 : (0 : Int) ≤ ρ 6 ∧ ρ 6 ≤ 20 := r6
  have r7 : (0 : Int) ≤ ρ 7 ∧ ρ 7 ≤ 2000 := r7
  have r8 : (0 : Int) ≤ ρ 8 ∧ ρ 8 ≤ 2000 := r8
  have r9 : (0 : Int) ≤ ρ 9 ∧ ρ 9 ≤ 2000 := r9
  have r10 : (0 : Int) ≤ ρ 10 ∧ ρ 10 ≤ 2000 := r10
  have r11 : (0 : Int) ≤ ρ 11 ∧ ρ 11 ≤ 2000 := r11
  have r12 : (0 : Int) ≤ ρ 12 ∧ ρ 12 ≤ 3 := r12
  have r13 : (0 : Int) ≤ ρ 13 ∧ ρ 13 ≤ 61 := r13
  have r14 : ((-2147483648) : Int) ≤ ρ 14 ∧ ρ 14 ≤ 2147483647 := r14
  have r15 : (0 : Int) ≤ ρ 15 ∧ ρ 15 ≤ 2000 := r15
  have r16 : (0 : Int) ≤ ρ 16 ∧ ρ 16 ≤ 12 := r16
  have r17 : (0 : Int) ≤ ρ 17 ∧ ρ 17 ≤ 4 := r17
  have r18 : (0 : Int) ≤ ρ 18 ∧ ρ 18 ≤ 4 := r18
  have r19 : ((-1) : Int) ≤ ρ 19 ∧ ρ 19 ≤ 7 := r19
  have r20 : (0 : Int) ≤ ρ 20 ∧ ρ 20 ≤ 64 := r20
  have r21 : (0 : Int) ≤ ρ 21 ∧ ρ 21 ≤ 2000 := r21
  have r22 : (0 : Int) ≤ ρ 22 ∧ ρ 22 ≤ 4 := r22
  have r23 : (0 : Int) ≤ ρ 23 ∧ ρ 23 ≤ 19 := r23
  have r24 : (0 : Int) ≤ ρ 24 ∧ ρ 24 ≤ 12288 := r24
  have r25 : (0 : Int) ≤ ρ 25 ∧ ρ 25 ≤ 12288 := r25
  have r26 : (0 : Int) ≤ ρ 26 ∧ ρ 26 ≤ 0 := r26
  have r27 : (0 : Int) ≤ ρ 27 ∧ ρ 27 ≤ 0 := r27
  have r28 : (0 : Int) ≤ ρ 28 ∧ ρ 28 ≤ 2000 := r28
  have r29 : (0 : Int) ≤ ρ 29 ∧ ρ 29 ≤ 2000 := r29
  have r30 : (0 : Int) ≤ ρ 30 ∧ ρ 30 ≤ 3 := r30
  have r31 : (61 : Int) ≤ ρ 31 ∧ ρ 31 ≤ 61 := r31
  have r32 : (0 : Int) ≤ ρ 32 ∧ ρ 32 ≤ 0 := r32
  have r33 : (0 : Int) ≤ ρ 33 ∧ ρ 33 ≤ 1999 := r33
  have r34 : (1 : Int) ≤ ρ 34 ∧ ρ 34 ≤ 12 := r34
  have r35 : (0 : Int) ≤ ρ 35 ∧ ρ 35 ≤ 4 := r35
  have r36 : (0 : Int) ≤ ρ 36 ∧ ρ 36 ≤ 4 := r36
  have r37 : ((-1) : Int) ≤ ρ 37 ∧ ρ 37 ≤ 7 := r37
  have r38 : (0 : Int) ≤ ρ 38 ∧ ρ 38 ≤ 1 := r38
  have r39 : ((-2147483648) : Int) ≤ ρ 39 ∧ ρ 39 ≤ 1099511640064 := r39
  obtain ⟨f0, f1, f2, f3, f4, f5, f6, f7, f8, f9, f10, f11, f12, f13, f14, -⟩ := hf
  have f0 : (0 : Int) ≤ ρ 35 + -ρ 22 + (-1) := f0
  have f1 : (0 : Int) ≤ -ρ 25 + (ρ 2 + ρ 1) := f1
  have f2 : (0 : Int) ≤ -ρ 24 + (ρ 2 + ρ 0) := f2
  have f3 : (0 : Int) ≤ -ρ 38 + ρ 36 := f3
  have f4 : (0 : Int) ≤ -ρ 38 + ρ 35 := f4
  have f5 : (0 : Int) ≤ ρ 35 + -ρ 22 := f5
  have f6 : (0 : Int) ≤ -ρ 35 + ρ 2 + (-1) := f6
  have f7 : (0 : Int) ≤ -ρ 34 + ρ 2 + (-1) := f7
  have f8 : (0 : Int) ≤ -ρ 33 + ρ 2 + (-1) := f8
  have f9 : (0 : Int) ≤ -ρ 22 + ρ 2 + (-1) := f9
  have f10 : (0 : Int) ≤ -ρ 23 + ρ 3 + (-1) := f10
  have f11 : (0 : Int) ≤ ρ 25 + -ρ 1 := f11
  have f12 : (0 : Int) ≤ ρ 24 + -ρ 0 := f12
  have f13 : (0 : Int) ≤ -ρ 2 + -ρ 1 + 12288 := f13
  have f14 : (0 : Int) ≤ -ρ 2 + -ρ 0 + 12288 := f14
  obtain ⟨m0, m1, m2, m3, m4, m5, m6, m7, m8, m9, m10, m11, m12, m13, m14, m15, m16, m17, m18, m19, m20, m21, m22, m23, m24, m25, m26, m27, m28, m29, m30, m31, m32, m33, m34, m35, m36, m37, m38, m39, m40, m41, -⟩ := hm
  have m0 : γ 0 15 0 8 = ρ 0 := m0
  have m1 : γ 0 15 0 9 = ρ 1 := m1
  have m2 : γ 0 15 0 3 = ρ 2 := m2
  have m3 : γ 0 15 0 13 = ρ 3 := m3
  have m4 : γ 0 15 0 59 = ρ 4 := m4
  have m5 : γ 0 15 0 0 = ρ 5 := m5
  have m6 : γ 0 15 0 14 = ρ 6 := m6
  have m7 : γ 0 15 0 34 = ρ 7 := m7
  have m8 : γ 0 15 0 35 = ρ 8 := m8
  have m9 : γ 0 15 0 36 = ρ 9 := m9
  have m10 : γ 0 15 0 37 = ρ 10 := m10
  have m11 : γ 0 15 0 38 = ρ 11 := m11
  have m12 : γ 0 15 0 40 = ρ 12 := m12
  have m13 : γ 0 15 0 44 = ρ 13 := m13
  have m14 : γ 0 15 0 45 = ρ 14 := m14
  have m15 : γ 0 15 0 46 = ρ 15 := m15
  have m16 : γ 0 15 0 47 = ρ 16 := m16
  have m17 : γ 0 15 0 48 = ρ 17 := m17
  have m18 : γ 0 15 0 49 = ρ 18 := m18
  have m19 : γ 0 15 0 50 = ρ 19 := m19
  have m20 : γ 0 15 0 58 = ρ 20 := m20
  have m21 : γ 0 15 0 71 = ρ 21 := m21
  have m22 : γ 1 15 0 8 = ρ 24 := m22
  have m23 : γ 1 15 0 9 = ρ 25 := m23
  have m24 : γ 1 15 0 3 = ρ 26 := m24
  have m25 : γ 1 15 0 0 = ρ 27 := m25
  have m26 : γ 1 15 0 14 = ρ 3 := m26
  have m27 : γ 1 15 0 34 = ρ 2 := m27
  have m28 : γ 1 15 0 35 = ρ 2 := m28
  have m29 : γ 1 15 0 36 = ρ 9 := m29
  have m30 : γ 1 15 0 37 = ρ 28 := m30
  have m31 : γ 1 15 0 38 = ρ 29 := m31
  have m32 : γ 1 15 0 40 = ρ 30 := m32
  have m33 : γ 1 15 0 44 = ρ 31 := m33
  have m34 : γ 1 15 0 45 = ρ 32 := m34
  have m35 : γ 1 15 0 46 = ρ 33 := m35
  have m36 : γ 1 15 0 47 = ρ 34 := m36
  have m37 : γ 1 15 0 48 = ρ 35 := m37
  have m38 : γ 1 15 0 49 = ρ 36 := m38
  have m39 : γ 1 15 0 50 = ρ 37 := m39
  have m40 : γ 1 15 0 58 = ρ 38 := m40
  have m41 : γ 1 87 0 (ρ 22) = ρ 39 := m41
  obtain ⟨⟨-, c1⟩, c2⟩ := hc
  have c1 : ∀ (G : Nat) (k j : Int), ¬ rMdP m61_ G j → γ 1 G k j = γ 0 G k j := c1
  have c2 : γ 2 = rUp (γ 1) 102 0 (ρ 22) (ρ 39) := c2
  show jr90 [ρ 0, ρ 1, ρ 2, ρ 3, ρ 4, ρ 5, ρ 6, ρ 7, ρ 8, ρ 9, ρ 10, ρ 11, ρ 12, ρ 13, ρ 14, ρ 15, ρ 16, ρ 17, ρ 18, ρ 19, ρ 20, ρ 21] (γ 0) 0 [ρ 0, ρ 1, ρ 2, ρ 3, ρ 4, ρ 5, ρ 6, ρ 7, ρ 8, ρ 9, ρ 10, ρ 11, ρ 12, ρ 13, ρ 14, ρ 15, ρ 16, ρ 17, ρ 18, ρ 19, ρ 20, ρ 21, ρ 22 + 1, ρ 23, ρ 24, ρ 25, ρ 26, ρ 27, ρ 28, ρ 29, ρ 30, ρ 31, ρ 32, ρ 33, ρ 34, ρ 35, ρ 36, ρ 37, ρ 38] (γ 2)
  exact eqM_tr hJ (eqM_up c2 (by decide))
theorem un90 {S : Nat → zSpc} (hS1 : ∀ x g o v gz, S 1 x g o v gz → sn1 x g o v gz) (hS5 : ∀ x g o v gz, S 5 x g o v gz → sn5 x g o v gz) (hS7 : ∀ x g o v gz, S 7 x g o v gz → sn7 x g o v gz) (hS8 : ∀ x g o v gz, S 8 x g o v gz → sn8 x g o v gz) (hS21 : ∀ x g o v gz, S 21 x g o v gz → sn21 x g o v gz) (hS27 : ∀ x g o v gz, S 27 x g o v gz → sn27 x g o v gz) (hS31 : ∀ x g o v gz, S 31 x g o v gz → sn31 x g o v gz) (hS32 : ∀ x g o v gz, S 32 x g o v gz → sn32 x g o v gz) : ∀ x g o v gz, zSem uW uT w90_.2.2.2.1 w90_.2.2.1.1.length S q90 (fun i => q90a.getD i []) (zNA a90_) x g o v gz → sr90 x g o v gz := by
  intro a g o v gz h
  exact zSem_all (l0 := q90) (las := q90a) (S := S) (J := (fun i vs g1 => jr90 a g i vs g1)) (P := sr90 a g) (fun _ => (show zAll _ [q90_0, q90_1, q90_2, q90_3, q90_4, q90_5] from (zAll_c (wn90_0 hS1 hS5 hS7 hS8 hS21 hS27 hS31 hS32) (zAll_c (wn90_1 hS1 hS5 hS7 hS8 hS21 hS27 hS31 hS32) (zAll_c (wn90_2 hS1 hS5 hS7 hS8 hS21 hS27 hS31 hS32) (zAll_c (wn90_3 hS1 hS5 hS7 hS8 hS21 hS27 hS31 hS32) (zAll_c (wn90_4 hS1 hS5 hS7 hS8 hS21 hS27 hS31 hS32) (zAll_c (wn90_5 hS1 hS5 hS7 hS8 hS21 hS27 hS31 hS32) zAll_n)))))))) (fun _ => (show zAllI _ 0 [q90a0] from ⟨(show zAll _ [q90a0_0, q90a0_1] from (zAll_c (wn90a0_0 hS1 hS5 hS7 hS8 hS21 hS27 hS31 hS32) (zAll_c (wn90a0_1 hS1 hS5 hS7 hS8 hS21 hS27 hS31 hS32) zAll_n))), trivial⟩)) h
theorem wn91_0 {S : Nat → zSpc} (hS1 : ∀ x g o v gz, S 1 x g o v gz → sn1 x g o v gz) (hS5 : ∀ x g o v gz, S 5 x g o v gz → sn5 x g o v gz) (hS7 : ∀ x g o v gz, S 7 x g o v gz → sn7 x g o v gz) (hS8 : ∀ x g o v gz, S 8 x g o v gz → sn8 x g o v gz) (hS28 : ∀ x g o v gz, S 28 x g o v gz → sn28 x g o v gz) (hS32 : ∀ x g o v gz, S 32 x g o v gz → sn32 x g o v gz) (hS38 : ∀ x g o v gz, S 38 x g o v gz → sn38 x g o v gz) (hS44 : ∀ x g o v gz, S 44 x g o v gz → sn44 x g o v gz) {a : List Int} {g : rHp} : ∀ (ρ : Nat → Int) (γ : Nat → rHp), zO 27 S a g q91_0 ρ γ → zGl (fun i vs g1 => jr91 a g i vs g1) (sr91 a g) q91_0 ρ γ := by
  intro ρ γ h
  obtain ⟨ha, hg, hr, hf, hm, hc, hl⟩ := h
  have ha : a = [ρ 0, ρ 1, ρ 2, ρ 3, ρ 4, ρ 5, ρ 6, ρ 7, ρ 8, ρ 9, ρ 10, ρ 11, ρ 12, ρ 13, ρ 14, ρ 15, ρ 16, ρ 17, ρ 18, ρ 19, ρ 20, ρ 21, ρ 22, ρ 23, ρ 24, ρ 25, ρ 26] := ha
  subst ha
  subst hg
  obtain ⟨r0, r1, r2, r3, r4, r5, r6, r7, r8, r9, r10, r11, r12, r13, r14, r15, r16, r17, r18, r19, r20, r21, r22, r23, r24, r25, r26, r27, r28, r29, r30, r31, r32, r33, r34, r35, r36, r37, r38, -⟩ := hr
  have r0 : (0 : Int) ≤ ρ 0 ∧ ρ 0 ≤ 12288 := r0
  have r1 : (0 : Int) ≤ ρ 1 ∧ ρ 1 ≤ 12288 := r1
  have r2 : (0 : Int) ≤ ρ 2 ∧ ρ 2 ≤ 2000 := r2
  have r3 : (0 : Int) ≤ ρ 3 ∧ ρ 3 ≤ 20 := r3
  have r4 : (0 : Int) ≤ ρ 4 ∧ ρ 4 ≤ 50001 := r4
  have r5 : (0 : Int) ≤ ρ 5 ∧ ρ 5 ≤ 3 := r5
  have r6 : (0 : Int) ≤ ρ 6 ∧ ρ 6 ≤ 50001 := r6
  have r7 : (1 : Int) ≤ ρ 7 ∧ ρ 7 ≤ 1 := r7
  have r8 : (0 : Int) ≤ ρ 8 ∧ ρ 8 ≤ 3 := r8
  have r9 : (0 : Int) ≤ ρ 9 ∧ ρ 9 ≤ 20 := r9
  have r10 : (0 : Int) ≤ ρ 10 ∧ ρ 10 ≤ 60 := r10
  have r11 : (0 : Int) ≤ ρ 11 ∧ ρ 11 ≤ 2000 := r11
  have r12 : (0 : Int) ≤ ρ 12 ∧ ρ 12 ≤ 2000 := r12
  have r13 : (0 : Int) ≤ ρ 13 ∧ ρ 13 ≤ 2000 := r13
  have r14 : (0 : Int) ≤ ρ 14 ∧ ρ 14 ≤ 2000 := r14
  have r15 : (0 : Int) ≤ ρ 15 ∧ ρ 15 ≤ 2000 := r15
  have r16 : (0 : Int) ≤ ρ 16 ∧ ρ 16 ≤ 3 := r16
  have r17 : (0 : Int) ≤ ρ 17 ∧ ρ 17 ≤ 61 := r17
  have r18 : ((-2147483648) : Int) ≤ ρ 18 ∧ ρ 18 ≤ 2147483647 := r18
  have r19 : (0 : Int) ≤ ρ 19 ∧ ρ 19 ≤ 64 := r19
  have r20 : (0 : Int) ≤ ρ 20 ∧ ρ 20 ≤ 2000 := r20
  have r21 : ((-2147483648) : Int) ≤ ρ 21 ∧ ρ 21 ≤ 2147483647 := r21
  have r22 : (0 : Int) ≤ ρ 22 ∧ ρ 22 ≤ 2000 := r22
  have r23 : (0 : Int) ≤ ρ 23 ∧ ρ 23 ≤ 2000 := r23
  have r24 : (0 : Int) ≤ ρ 24 ∧ ρ 24 ≤ 2000 := r24
  have r25 : (0 : Int) ≤ ρ 25 ∧ ρ 25 ≤ 50001 := r25
  have r26 : ((-2147483648) : Int) ≤ ρ 26 ∧ ρ 26 ≤ 2147483647 := r26
  have r27 : (0 : Int) ≤ ρ 27 ∧ ρ 27 ≤ 8 := r27
  have r28 : (0 : Int) ≤ ρ 28 ∧ ρ 28 ≤ 2000 := r28
  have r29 : (0 : Int) ≤ ρ 29 ∧ ρ 29 ≤ 12288 := r29
  have r30 : (0 : Int) ≤ ρ 30 ∧ ρ 30 ≤ 12288 := r30
  have r31 : (0 : Int) ≤ ρ 31 ∧ ρ 31 ≤ 43 := r31
  have r32 : (0 : Int) ≤ ρ 32 ∧ ρ 32 ≤ 8 := r32
  have r33 : (0 : Int) ≤ ρ 33 ∧ ρ 33 ≤ 20 := r33
  have r34 : (0 : Int) ≤ ρ 34 ∧ ρ 34 ≤ 2000 := r34
  have r35 : (0 : Int) ≤ ρ 35 ∧ ρ 35 ≤ 2000 := r35
  have r36 : (0 : Int) ≤ ρ 36 ∧ ρ 36 ≤ 2000 := r36
  have r37 : (0 : Int) ≤ ρ 37 ∧ ρ 37 ≤ 3 := r37
  have r38 : ((-2147483648) : Int) ≤ ρ 38 ∧ ρ 38 ≤ 2147483647 := r38
  obtain ⟨f0, f1, f2, f3, f4, f5, f6, f7, f8, f9, -⟩ := hf
  have f0 : (0 : Int) ≤ -ρ 2 + -ρ 0 + 12288 := f0
  have f1 : (0 : Int) ≤ -ρ 2 + -ρ 1 + 12288 := f1
  have f2 : (0 : Int) ≤ ρ 29 + -ρ 0 := f2
  have f3 : (0 : Int) ≤ ρ 30 + -ρ 1 := f3
  have f4 : (0 : Int) ≤ ρ 32 + -ρ 27 := f4
  have f5 : (0 : Int) ≤ ρ 33 + -ρ 3 := f5
  have f6 : (0 : Int) ≤ -ρ 28 + ρ 2 := f6
  have f7 : (0 : Int) ≤ -ρ 34 + ρ 2 := f7
  have f8 : (0 : Int) ≤ -ρ 29 + (ρ 28 + ρ 0) := f8
  have f9 : (0 : Int) ≤ -ρ 30 + (ρ 28 + ρ 1) := f9
  obtain ⟨m0, m1, m2, m3, m4, m5, m6, m7, m8, m9, m10, m11, m12, m13, m14, m15, m16, m17, m18, m19, m20, m21, m22, m23, m24, m25, m26, m27, m28, m29, m30, m31, m32, m33, m34, m35, m36, m37, m38, m39, m40, m41, m42, m43, m44, m45, -⟩ := hm
  have m0 : γ 0 15 0 8 = ρ 0 := m0
  have m1 : γ 0 15 0 9 = ρ 1 := m1
  have m2 : γ 0 15 0 3 = ρ 2 := m2
  have m3 : γ 0 15 0 13 = ρ 3 := m3
  have m4 : γ 0 15 0 72 = ρ 4 := m4
  have m5 : γ 0 15 0 77 = ρ 5 := m5
  have m6 : γ 0 15 0 94 = ρ 6 := m6
  have m7 : γ 0 15 0 59 = ρ 7 := m7
  have m8 : γ 0 15 0 0 = ρ 8 := m8
  have m9 : γ 0 15 0 14 = ρ 9 := m9
  have m10 : γ 0 15 0 32 = ρ 10 := m10
  have m11 : γ 0 15 0 34 = ρ 11 := m11
  have m12 : γ 0 15 0 35 = ρ 12 := m12
  have m13 : γ 0 15 0 36 = ρ 13 := m13
  have m14 : γ 0 15 0 37 = ρ 14 := m14
  have m15 : γ 0 15 0 38 = ρ 15 := m15
  have m16 : γ 0 15 0 40 = ρ 16 := m16
  have m17 : γ 0 15 0 44 = ρ 17 := m17
  have m18 : γ 0 15 0 45 = ρ 18 := m18
  have m19 : γ 0 15 0 58 = ρ 19 := m19
  have m20 : γ 0 15 0 71 = ρ 20 := m20
  have m21 : γ 0 15 0 74 = ρ 21 := m21
  have m22 : γ 0 15 0 81 = ρ 22 := m22
  have m23 : γ 0 15 0 82 = ρ 23 := m23
  have m24 : γ 0 15 0 83 = ρ 24 := m24
  have m25 : γ 0 15 0 93 = ρ 25 := m25
  have m26 : γ 0 15 0 95 = ρ 26 := m26
  have m27 : γ 1 15 0 3 = 0 := m27
  have m28 : γ 1 15 0 34 = ρ 2 := m28
  have m29 : γ 1 15 0 35 = 0 := m29
  have m30 : γ 2 15 0 0 = 0 := m30
  have m31 : γ 4 15 0 44 = 61 := m31
  have m32 : γ 4 15 0 45 = 0 := m32
  have m33 : γ 4 15 0 58 = 0 := m33
  have m34 : γ 4 73 0 61 = ρ 27 := m34
  have m35 : γ 5 15 0 35 = ρ 28 := m35
  have m36 : γ 5 15 0 8 = ρ 29 := m36
  have m37 : γ 5 15 0 9 = ρ 30 := m37
  have m38 : γ 5 15 0 58 = ρ 31 := m38
  have m39 : γ 5 73 0 61 = ρ 32 := m39
  have m40 : γ 5 15 0 14 = ρ 33 := m40
  have m41 : γ 5 15 0 36 = ρ 34 := m41
  have m42 : γ 5 15 0 37 = ρ 35 := m42
  have m43 : γ 5 15 0 38 = ρ 36 := m43
  have m44 : γ 5 15 0 40 = ρ 37 := m44
  have m45 : γ 5 15 0 45 = ρ 38 := m45
  obtain ⟨⟨⟨⟨⟨-, c1⟩, c2⟩, c3⟩, c4⟩, c5⟩ := hc
  have c1 : ∀ (G : Nat) (k j : Int), ¬ rMdP m5_ G j → γ 1 G k j = γ 0 G k j := c1
  have c2 : ∀ (G : Nat) (k j : Int), ¬ rMdP m1_ G j → γ 2 G k j = γ 1 G k j := c2
  have c3 : γ 3 = rUp (γ 2) 15 0 14 (ρ 3) := c3
  have c4 : ∀ (G : Nat) (k j : Int), ¬ rMdP m22_ G j → γ 4 G k j = γ 3 G k j := c4
  have c5 : ∀ (G : Nat) (k j : Int), ¬ rMdP m27_ G j → γ 5 G k j = γ 4 G k j := c5
  obtain ⟨l0, l1, l2, l3, -⟩ := hl
  have l0 : sn5 [ρ 2, ρ 11, ρ 12] (γ 0) 0 0 (γ 1) := hS5 _ _ _ _ _ l0
  have l1 : sn1 [0, ρ 8] (γ 1) 0 0 (γ 2) := hS1 _ _ _ _ _ l1
  have l2 : sn32 [61, ρ 17, ρ 18, ρ 19] (γ 3) 0 0 (γ 4) := hS32 _ _ _ _ _ l2
  have l3 : sn38 [0, 0, ρ 2, ρ 0, ρ 1, 0, ρ 10, 61, ρ 27, ρ 3, ρ 13, ρ 14, ρ 15, ρ 16, 0] (γ 4) 0 0 (γ 5) := hS38 _ _ _ _ _ l3
  show sr91 [ρ 0, ρ 1, ρ 2, ρ 3, ρ 4, ρ 5, ρ 6, ρ 7, ρ 8, ρ 9, ρ 10, ρ 11, ρ 12, ρ 13, ρ 14, ρ 15, ρ 16, ρ 17, ρ 18, ρ 19, ρ 20, ρ 21, ρ 22, ρ 23, ρ 24, ρ 25, ρ 26] (γ 0) 0 (-ρ 34 + (-1)) (γ 5)
  have h7 : γ 0 15 0 59 ≠ 0 := by rw [m7]; omega
  have e1 : γ 1 = (fn5 [] (γ 0)).2.2 := congrArg (fun r : zR => r.2.2) l0
  have e2 : γ 2 = rUp (γ 1) 15 0 0 0 := congrArg (fun r : zR => r.2.2) l1
  have e4 : γ 4 = (fn32 [61] (γ 3)).2.2 := congrArg (fun r : zR => r.2.2) l2
  have e5 : γ 5 = (fn38 [0] (γ 4)).2.2 := congrArg (fun r : zR => r.2.2) l3
  have hb : hB1 (γ 0) = γ 5 := by
    unfold hB1
    unfold hpB
    rw [if_pos h7, ← e1, ← e2, m3, ← c3, ← e4, ← e5]
  show eqM (hB1 (γ 0)) (γ 5)
  rw [hb]
  exact eqM_rf
theorem wn91_1 {S : Nat → zSpc} (hS1 : ∀ x g o v gz, S 1 x g o v gz → sn1 x g o v gz) (hS5 : ∀ x g o v gz, S 5 x g o v gz → sn5 x g o v gz) (hS7 : ∀ x g o v gz, S 7 x g o v gz → sn7 x g o v gz) (hS8 : ∀ x g o v gz, S 8 x g o v gz → sn8 x g o v gz) (hS28 : ∀ x g o v gz, S 28 x g o v gz → sn28 x g o v gz) (hS32 : ∀ x g o v gz, S 32 x g o v gz → sn32 x g o v gz) (hS38 : ∀ x g o v gz, S 38 x g o v gz → sn38 x g o v gz) (hS44 : ∀ x g o v gz, S 44 x g o v gz → sn44 x g o v gz) {a : List Int} {g : rHp} : ∀ (ρ : Nat → Int) (γ : Nat → rHp), zO 27 S a g q91_1 ρ γ → zGl (fun i vs g1 => jr91 a g i vs g1) (sr91 a g) q91_1 ρ γ := by
  intro ρ γ h
  obtain ⟨ha, hg, hr, hf, hm, hc, hl⟩ := h
  have ha : a = [ρ 0, ρ 1, ρ 2, ρ 3, ρ 4, ρ 5, ρ 6, ρ 7, ρ 8, ρ 9, ρ 10, ρ 11, ρ 12, ρ 13, ρ 14, ρ 15, ρ 16, ρ 17, ρ 18, ρ 19, ρ 20, ρ 21, ρ 22, ρ 23, ρ 24, ρ 25, ρ 26] := ha
  subst ha
  subst hg
  obtain ⟨r0, r1, r2, r3, r4, r5, r6, r7, r8, r9, r10, r11, r12, r13, r14, r15, r16, r17, r18, r19, r20, r21, r22, r23, r24, r25, r26, r27, r28, r29, r30, r31, r32, r33, r34, r35, r36, r37, r38, r39, -⟩ := hr
  have r0 : (0 : Int) ≤ ρ 0 ∧ ρ 0 ≤ 12288 := r0
  have r1 : (0 : Int) ≤ ρ 1 ∧ ρ 1 ≤ 12288 := r1
  have r2 : (0 : Int) ≤ ρ 2 ∧ ρ 2 ≤ 2000 := r2
  have r3 : (0 : Int) ≤ ρ 3 ∧ ρ 3 ≤ 20 := r3
  have r4 : (0 : Int) ≤ ρ 4 ∧ ρ 4 ≤ 50001 := r4
  have r5 : (0 : Int) ≤ ρ 5 ∧ ρ 5 ≤ 3 := r5
  have r6 : (0 : Int) ≤ ρ 6 ∧ ρ 6 ≤ 50001 := r6
  have r7 : (1 : Int) ≤ ρ 7 ∧ ρ 7 ≤ 1 := r7
  have r8 : (0 : Int) ≤ ρ 8 ∧ ρ 8 ≤ 3 := r8
  have r9 : (0 : Int) ≤ ρ 9 ∧ ρ 9 ≤ 20 := r9
  have r10 : (0 : Int) ≤ ρ 10 ∧ ρ 10 ≤ 60 := r10
  have r11 : (0 : Int) ≤ ρ 11 ∧ ρ 11 ≤ 2000 := r11
  have r12 : (0 : Int) ≤ ρ 12 ∧ ρ 12 ≤ 2000 := r12
  have r13 : (0 : Int) ≤ ρ 13 ∧ ρ 13 ≤ 2000 := r13
  have r14 : (0 : Int) ≤ ρ 14 ∧ ρ 14 ≤ 2000 := r14
  have r15 : (0 : Int) ≤ ρ 15 ∧ ρ 15 ≤ 2000 := r15
  have r16 : (0 : Int) ≤ ρ 16 ∧ ρ 16 ≤ 3 := r16
  have r17 : (0 : Int) ≤ ρ 17 ∧ ρ 17 ≤ 61 := r17
  have r18 : ((-2147483648) : Int) ≤ ρ 18 ∧ ρ 18 ≤ 2147483647 := r18
  have r19 : (0 : Int) ≤ ρ 19 ∧ ρ 19 ≤ 64 := r19
  have r20 : (0 : Int) ≤ ρ 20 ∧ ρ 20 ≤ 2000 := r20
  have r21 : ((-2147483648) : Int) ≤ ρ 21 ∧ ρ 21 ≤ 2147483647 := r21
  have r22 : (0 : Int) ≤ ρ 22 ∧ ρ 22 ≤ 2000 := r22
  have r23 : (0 : Int) ≤ ρ 23 ∧ ρ 23 ≤ 2000 := r23
  have r24 : (0 : Int) ≤ ρ 24 ∧ ρ 24 ≤ 2000 := r24
  have r25 : (0 : Int) ≤ ρ 25 ∧ ρ 25 ≤ 50001 := r25
  have r26 : ((-2147483648) : Int) ≤ ρ 26 ∧ ρ 26 ≤ 2147483647 := r26
  have r27 : (0 : Int) ≤ ρ 27 ∧ ρ 27 ≤ 8 := r27
  have r28 : (0 : Int) ≤ ρ 28 ∧ ρ 28 ≤ 2000 := r28
  have r29 : (0 : Int) ≤ ρ 29 ∧ ρ 29 ≤ 12288 := r29
  have r30 : (0 : Int) ≤ ρ 30 ∧ ρ 30 ≤ 12288 := r30
  have r31 : (0 : Int) ≤ ρ 31 ∧ ρ 31 ≤ 43 := r31
  have r32 : (0 : Int) ≤ ρ 32 ∧ ρ 32 ≤ 8 := r32
  have r33 : (0 : Int) ≤ ρ 33 ∧ ρ 33 ≤ 20 := r33
  have r34 : (0 : Int) ≤ ρ 34 ∧ ρ 34 ≤ 2000 := r34
  have r35 : (0 : Int) ≤ ρ 35 ∧ ρ 35 ≤ 2000 := r35
  have r36 : (0 : Int) ≤ ρ 36 ∧ ρ 36 ≤ 3 := r36
  have r37 : ((-2147483648) : Int) ≤ ρ 37 ∧ ρ 37 ≤ 2147483647 := r37
  have r38 : (0 : Int) ≤ ρ 38 ∧ ρ 38 ≤ 2000 := r38
  have r39 : (0 : Int) ≤ ρ 39 ∧ ρ 39 ≤ 2000 := r39
  obtain ⟨f0, f1, f2, f3, f4, f5, f6, f7, f8, f9, f10, f11, f12, f13, -⟩ := hf
  have f0 : (0 : Int) ≤ -ρ 39 + ρ 2 := f0
  have f1 : (0 : Int) ≤ -ρ 38 + ρ 2 := f1
  have f2 : (0 : Int) ≤ ρ 38 + -ρ 2 := f2
  have f3 : (0 : Int) ≤ -ρ 28 + ρ 2 := f3
  have f4 : (0 : Int) ≤ ρ 38 + -ρ 28 := f4
  have f5 : (0 : Int) ≤ -ρ 2 + -ρ 0 + 12288 := f5
  have f6 : (0 : Int) ≤ -ρ 2 + -ρ 1 + 12288 := f6
  have f7 : (0 : Int) ≤ ρ 29 + -ρ 0 := f7
  have f8 : (0 : Int) ≤ ρ 30 + -ρ 1 := f8
  have f9 : (0 : Int) ≤ ρ 32 + -ρ 27 := f9
  have f10 : (0 : Int) ≤ ρ 33 + -ρ 3 := f10
  have f11 : (0 : Int) ≤ -ρ 29 + (ρ 28 + ρ 0) := f11
  have f12 : (0 : Int) ≤ -ρ 30 + (ρ 28 + ρ 1) := f12
  have f13 : (0 : Int) ≤ 4 * ρ 32 + -ρ 31 + 6 := f13
  obtain ⟨m0, m1, m2, m3, m4, m5, m6, m7, m8, m9, m10, m11, m12, m13, m14, m15, m16, m17, m18, m19, m20, m21, m22, m23, m24, m25, m26, m27, m28, m29, m30, m31, m32, m33, m34, m35, m36, m37, m38, m39, m40, m41, m42, m43, m44, m45, m46, m47, -⟩ := hm
  have m0 : γ 0 15 0 8 = ρ 0 := m0
  have m1 : γ 0 15 0 9 = ρ 1 := m1
  have m2 : γ 0 15 0 3 = ρ 2 := m2
  have m3 : γ 0 15 0 13 = ρ 3 := m3
  have m4 : γ 0 15 0 72 = ρ 4 := m4
  have m5 : γ 0 15 0 77 = ρ 5 := m5
  have m6 : γ 0 15 0 94 = ρ 6 := m6
  have m7 : γ 0 15 0 59 = ρ 7 := m7
  have m8 : γ 0 15 0 0 = ρ 8 := m8
  have m9 : γ 0 15 0 14 = ρ 9 := m9
  have m10 : γ 0 15 0 32 = ρ 10 := m10
  have m11 : γ 0 15 0 34 = ρ 11 := m11
  have m12 : γ 0 15 0 35 = ρ 12 := m12
  have m13 : γ 0 15 0 36 = ρ 13 := m13
  have m14 : γ 0 15 0 37 = ρ 14 := m14
  have m15 : γ 0 15 0 38 = ρ 15 := m15
  have m16 : γ 0 15 0 40 = ρ 16 := m16
  have m17 : γ 0 15 0 44 = ρ 17 := m17
  have m18 : γ 0 15 0 45 = ρ 18 := m18
  have m19 : γ 0 15 0 58 = ρ 19 := m19
  have m20 : γ 0 15 0 71 = ρ 20 := m20
  have m21 : γ 0 15 0 74 = ρ 21 := m21
  have m22 : γ 0 15 0 81 = ρ 22 := m22
  have m23 : γ 0 15 0 82 = ρ 23 := m23
  have m24 : γ 0 15 0 83 = ρ 24 := m24
  have m25 : γ 0 15 0 93 = ρ 25 := m25
  have m26 : γ 0 15 0 95 = ρ 26 := m26
  have m27 : γ 1 15 0 3 = 0 := m27
  have m28 : γ 1 15 0 34 = ρ 2 := m28
  have m29 : γ 1 15 0 35 = 0 := m29
  have m30 : γ 2 15 0 0 = 0 := m30
  have m31 : γ 4 15 0 44 = 61 := m31
  have m32 : γ 4 15 0 45 = 0 := m32
  have m33 : γ 4 15 0 58 = 0 := m33
  have m34 : γ 4 73 0 61 = ρ 27 := m34
  have m35 : γ 5 15 0 35 = ρ 28 := m35
  have m36 : γ 5 15 0 8 = ρ 29 := m36
  have m37 : γ 5 15 0 9 = ρ 30 := m37
  have m38 : γ 5 15 0 58 = ρ 31 := m38
  have m39 : γ 5 73 0 61 = ρ 32 := m39
  have m40 : γ 5 15 0 14 = ρ 33 := m40
  have m41 : γ 5 15 0 36 = ρ 13 := m41
  have m42 : γ 5 15 0 37 = ρ 34 := m42
  have m43 : γ 5 15 0 38 = ρ 35 := m43
  have m44 : γ 5 15 0 40 = ρ 36 := m44
  have m45 : γ 5 15 0 45 = ρ 37 := m45
  have m46 : γ 6 15 0 35 = ρ 38 := m46
  have m47 : γ 7 15 0 36 = ρ 39 := m47
  obtain ⟨⟨⟨⟨⟨⟨⟨-, c1⟩, c2⟩, c3⟩, c4⟩, c5⟩, c6⟩, c7⟩ := hc
  have c1 : ∀ (G : Nat) (k j : Int), ¬ rMdP m5_ G j → γ 1 G k j = γ 0 G k j := c1
  have c2 : ∀ (G : Nat) (k j : Int), ¬ rMdP m1_ G j → γ 2 G k j = γ 1 G k j := c2
  have c3 : γ 3 = rUp (γ 2) 15 0 14 (ρ 3) := c3
  have c4 : ∀ (G : Nat) (k j : Int), ¬ rMdP m22_ G j → γ 4 G k j = γ 3 G k j := c4
  have c5 : ∀ (G : Nat) (k j : Int), ¬ rMdP m27_ G j → γ 5 G k j = γ 4 G k j := c5
  have c6 : ∀ (G : Nat) (k j : Int), ¬ rMdP m6_ G j → γ 6 G k j = γ 5 G k j := c6
  have c7 : ∀ (G : Nat) (k j : Int), ¬ rMdP m7_ G j → γ 7 G k j = γ 6 G k j := c7
  obtain ⟨l0, l1, l2, l3, l4, l5, -⟩ := hl
  have l0 : sn5 [ρ 2, ρ 11, ρ 12] (γ 0) 0 0 (γ 1) := hS5 _ _ _ _ _ l0
  have l1 : sn1 [0, ρ 8] (γ 1) 0 0 (γ 2) := hS1 _ _ _ _ _ l1
  have l2 : sn32 [61, ρ 17, ρ 18, ρ 19] (γ 3) 0 0 (γ 4) := hS32 _ _ _ _ _ l2
  have l3 : sn38 [0, 0, ρ 2, ρ 0, ρ 1, 0, ρ 10, 61, ρ 27, ρ 3, ρ 13, ρ 14, ρ 15, ρ 16, 0] (γ 4) 0 1 (γ 5) := hS38 _ _ _ _ _ l3
  have l4 : sn7 [ρ 28, ρ 2] (γ 5) 0 0 (γ 6) := hS7 _ _ _ _ _ l4
  have l5 : sn28 [ρ 2, ρ 13, ρ 37, ρ 31] (γ 6) 0 0 (γ 7) := hS28 _ _ _ _ _ l5
  show sr91 [ρ 0, ρ 1, ρ 2, ρ 3, ρ 4, ρ 5, ρ 6, ρ 7, ρ 8, ρ 9, ρ 10, ρ 11, ρ 12, ρ 13, ρ 14, ρ 15, ρ 16, ρ 17, ρ 18, ρ 19, ρ 20, ρ 21, ρ 22, ρ 23, ρ 24, ρ 25, ρ 26] (γ 0) 0 (-ρ 39 + (-1)) (γ 7)
  have h7 : γ 0 15 0 59 ≠ 0 := by rw [m7]; omega
  have e1 : γ 1 = (fn5 [] (γ 0)).2.2 := congrArg (fun r : zR => r.2.2) l0
  have e2 : γ 2 = rUp (γ 1) 15 0 0 0 := congrArg (fun r : zR => r.2.2) l1
  have e4 : γ 4 = (fn32 [61] (γ 3)).2.2 := congrArg (fun r : zR => r.2.2) l2
  have e5 : γ 5 = (fn38 [0] (γ 4)).2.2 := congrArg (fun r : zR => r.2.2) l3
  have hb : hB1 (γ 0) = γ 5 := by
    unfold hB1
    unfold hpB
    rw [if_pos h7, ← e1, ← e2, m3, ← c3, ← e4, ← e5]
  show eqM (hB1 (γ 0)) (γ 7)
  rw [hb]
  exact (eqM_tr (eqM_k (ms := m6_) (by decide +kernel) c6) (eqM_k (ms := m7_) (by decide +kernel) c7))
theorem wn91_2 {S : Nat → zSpc} (hS1 : ∀ x g o v gz, S 1 x g o v gz → sn1 x g o v gz) (hS5 : ∀ x g o v gz, S 5 x g o v gz → sn5 x g o v gz) (hS7 : ∀ x g o v gz, S 7 x g o v gz → sn7 x g o v gz) (hS8 : ∀ x g o v gz, S 8 x g o v gz → sn8 x g o v gz) (hS28 : ∀ x g o v gz, S 28 x g o v gz → sn28 x g o v gz) (hS32 : ∀ x g o v gz, S 32 x g o v gz → sn32 x g o v gz) (hS38 : ∀ x g o v gz, S 38 x g o v gz → sn38 x g o v gz) (hS44 : ∀ x g o v gz, S 44 x g o v gz → sn44 x g o v gz) {a : List Int} {g : rHp} : ∀ (ρ : Nat → Int) (γ : Nat → rHp), zO 27 S a g q91_2 ρ γ → zGl (fun i vs g1 => jr91 a g i vs g1) (sr91 a g) q91_2 ρ γ := by
  intro ρ γ h
  obtain ⟨ha, hg, hr, hf, hm, hc, hl⟩ := h
  have ha : a = [ρ 0, ρ 1, ρ 2, ρ 3, ρ 4, ρ 5, ρ 6, ρ 7, ρ 8, ρ 9, ρ 10, ρ 11, ρ 12, ρ 13, ρ 14, ρ 15, ρ 16, ρ 17, ρ 18, ρ 19, ρ 20, ρ 21, ρ 22, ρ 23, ρ 24, ρ 25, ρ 26] := ha
  subst ha
  subst hg
  obtain ⟨r0, r1, r2, r3, r4, r5, r6, r7, r8, r9, r10, r11, r12, r13, r14, r15, r16, r17, r18, r19, r20, r21, r22, r23, r24, r25, r26, r27, r28, r29, r30, r31, r32, r33, r34, r35, r36, r37, r38, r39, r40, r41, r42, -⟩ := hr
  have r0 : (0 : Int) ≤ ρ 0 ∧ ρ 0 ≤ 12288 := r0
  have r1 : (0 : Int) ≤ ρ 1 ∧ ρ 1 ≤ 12288 := r1
  have r2 : (0 : Int) ≤ ρ 2 ∧ ρ 2 ≤ 2000 := r2
  have r3 : (0 : Int) ≤ ρ 3 ∧ ρ 3 ≤ 20 := r3
  have r4 : (0 : Int) ≤ ρ 4 ∧ ρ 4 ≤ 50001 := r4
  have r5 : (0 : Int) ≤ ρ 5 ∧ ρ 5 ≤ 3 := r5
  have r6 : (0 : Int) ≤ ρ 6 ∧ ρ 6 ≤ 50001 := r6
  have r7 : (1 : Int) ≤ ρ 7 ∧ ρ 7 ≤ 1 := r7
  have r8 : (0 : Int) ≤ ρ 8 ∧ ρ 8 ≤ 3 := r8
  have r9 : (0 : Int) ≤ ρ 9 ∧ ρ 9 ≤ 20 := r9
  have r10 : (0 : Int) ≤ ρ 10 ∧ ρ 10 ≤ 60 := r10
  have r11 : (0 : Int) ≤ ρ 11 ∧ ρ 11 ≤ 2000 := r11
  have r12 : (0 : Int) ≤ ρ 12 ∧ ρ 12 ≤ 2000 := r12
  have r13 : (0 : Int) ≤ ρ 13 ∧ ρ 13 ≤ 2000 := r13
  have r14 : (0 : Int) ≤ ρ 14 ∧ ρ 14 ≤ 2000 := r14
  have r15 : (0 : Int) ≤ ρ 15 ∧ ρ 15 ≤ 2000 := r15
  have r16 : (0 : Int) ≤ ρ 16 ∧ ρ 16 ≤ 3 := r16
  have r17 : (0 : Int) ≤ ρ 17 ∧ ρ 17 ≤ 61 := r17
  have r18 : ((-2147483648) : Int) ≤ ρ 18 ∧ ρ 18 ≤ 2147483647 := r18
  have r19 : (0 : Int) ≤ ρ 19 ∧ ρ 19 ≤ 64 := r19
  have r20 : (0 : Int) ≤ ρ 20 ∧ ρ 20 ≤ 2000 := r20
  have r21 : ((-2147483648) : Int) ≤ ρ 21 ∧ ρ 21 ≤ 2147483647 := r21
  have r22 : (0 : Int) ≤ ρ 22 ∧ ρ 22 ≤ 2000 := r22
  have r23 : (0 : Int) ≤ ρ 23 ∧ ρ 23 ≤ 2000 := r23
  have r24 : (0 : Int) ≤ ρ 24 ∧ ρ 24 ≤ 2000 := r24
  have r25 : (0 : Int) ≤ ρ 25 ∧ ρ 25 ≤ 50001 := r25
  have r26 : ((-2147483648) : Int) ≤ ρ 26 ∧ ρ 26 ≤ 2147483647 := r26
  have r27 : (0 : Int) ≤ ρ 27 ∧ ρ 27 ≤ 8 := r27
  have r28 : (0 : Int) ≤ ρ 28 ∧ ρ 28 ≤ 2000 := r28
  have r29 : (0 : Int) ≤ ρ 29 ∧ ρ 29 ≤ 12288 := r29
  have r30 : (0 : Int) ≤ ρ 30 ∧ ρ 30 ≤ 12288 := r30
  have r31 : (0 : Int) ≤ ρ 31 ∧ ρ 31 ≤ 43 := r31
  have r32 : (0 : Int) ≤ ρ 32 ∧ ρ 32 ≤ 8 := r32
  have r33 : (0 : Int) ≤ ρ 33 ∧ ρ 33 ≤ 20 := r33
  have r34 : (0 : Int) ≤ ρ 34 ∧ ρ 34 ≤ 2000 := r34
  have r35 : (0 : Int) ≤ ρ 35 ∧ ρ 35 ≤ 2000 := r35
  have r36 : (0 : Int) ≤ ρ 36 ∧ ρ 36 ≤ 3 := r36
  have r37 : ((-2147483648) : Int) ≤ ρ 37 ∧ ρ 37 ≤ 2147483647 := r37
  have r38 : (0 : Int) ≤ ρ 38 ∧ ρ 38 ≤ 2000 := r38
  have r39 : (0 : Int) ≤ ρ 39 ∧ ρ 39 ≤ 50001 := r39
  have r40 : (0 : Int) ≤ ρ 40 ∧ ρ 40 ≤ 0 := r40
  have r41 : (0 : Int) ≤ ρ 41 ∧ ρ 41 ≤ 50001 := r41
  have r42 : ((-2147483648) : Int) ≤ ρ 42 ∧ ρ 42 ≤ 2147483647 := r42
  obtain ⟨f0, f1, f2, f3, f4, f5, f6, f7, f8, f9, f10, f11, f12, f13, f14, -⟩ := hf
  have f0 : (0 : Int) ≤ -ρ 41 + ρ 39 + 1 := f0
  have f1 : (0 : Int) ≤ ρ 40 + -ρ 39 + 50000 := f1
  have f2 : (0 : Int) ≤ -ρ 38 + ρ 2 := f2
  have f3 : (0 : Int) ≤ ρ 38 + -ρ 2 := f3
  have f4 : (0 : Int) ≤ -ρ 28 + ρ 2 := f4
  have f5 : (0 : Int) ≤ ρ 38 + -ρ 28 := f5
  have f6 : (0 : Int) ≤ -ρ 2 + -ρ 0 + 12288 := f6
  have f7 : (0 : Int) ≤ -ρ 2 + -ρ 1 + 12288 := f7
  have f8 : (0 : Int) ≤ ρ 29 + -ρ 0 := f8
  have f9 : (0 : Int) ≤ ρ 30 + -ρ 1 := f9
  have f10 : (0 : Int) ≤ ρ 32 + -ρ 27 := f10
  have f11 : (0 : Int) ≤ ρ 33 + -ρ 3 := f11
  have f12 : (0 : Int) ≤ -ρ 29 + (ρ 28 + ρ 0) := f12
  have f13 : (0 : Int) ≤ -ρ 30 + (ρ 28 + ρ 1) := f13
  have f14 : (0 : Int) ≤ 4 * ρ 32 + -ρ 31 + 6 := f14
  obtain ⟨m0, m1, m2, m3, m4, m5, m6, m7, m8, m9, m10, m11, m12, m13, m14, m15, m16, m17, m18, m19, m20, m21, m22, m23, m24, m25, m26, m27, m28, m29, m30, m31, m32, m33, m34, m35, m36, m37, m38, m39, m40, m41, m42, m43, m44, m45, m46, m47, m48, m49, m50, m51, m52, -⟩ := hm
  have m0 : γ 0 15 0 8 = ρ 0 := m0
  have m1 : γ 0 15 0 9 = ρ 1 := m1
  have m2 : γ 0 15 0 3 = ρ 2 := m2
  have m3 : γ 0 15 0 13 = ρ 3 := m3
  have m4 : γ 0 15 0 72 = ρ 4 := m4
  have m5 : γ 0 15 0 77 = ρ 5 := m5
  have m6 : γ 0 15 0 94 = ρ 6 := m6
  have m7 : γ 0 15 0 59 = ρ 7 := m7
  have m8 : γ 0 15 0 0 = ρ 8 := m8
  have m9 : γ 0 15 0 14 = ρ 9 := m9
  have m10 : γ 0 15 0 32 = ρ 10 := m10
  have m11 : γ 0 15 0 34 = ρ 11 := m11
  have m12 : γ 0 15 0 35 = ρ 12 := m12
  have m13 : γ 0 15 0 36 = ρ 13 := m13
  have m14 : γ 0 15 0 37 = ρ 14 := m14
  have m15 : γ 0 15 0 38 = ρ 15 := m15
  have m16 : γ 0 15 0 40 = ρ 16 := m16
  have m17 : γ 0 15 0 44 = ρ 17 := m17
  have m18 : γ 0 15 0 45 = ρ 18 := m18
  have m19 : γ 0 15 0 58 = ρ 19 := m19
  have m20 : γ 0 15 0 71 = ρ 20 := m20
  have m21 : γ 0 15 0 74 = ρ 21 := m21
  have m22 : γ 0 15 0 81 = ρ 22 := m22
  have m23 : γ 0 15 0 82 = ρ 23 := m23
  have m24 : γ 0 15 0 83 = ρ 24 := m24
  have m25 : γ 0 15 0 93 = ρ 25 := m25
  have m26 : γ 0 15 0 95 = ρ 26 := m26
  have m27 : γ 1 15 0 3 = 0 := m27
  have m28 : γ 1 15 0 34 = ρ 2 := m28
  have m29 : γ 1 15 0 35 = 0 := m29
  have m30 : γ 2 15 0 0 = 0 := m30
  have m31 : γ 4 15 0 44 = 61 := m31
  have m32 : γ 4 15 0 45 = 0 := m32
  have m33 : γ 4 15 0 58 = 0 := m33
  have m34 : γ 4 73 0 61 = ρ 27 := m34
  have m35 : γ 5 15 0 35 = ρ 28 := m35
  have m36 : γ 5 15 0 8 = ρ 29 := m36
  have m37 : γ 5 15 0 9 = ρ 30 := m37
  have m38 : γ 5 15 0 58 = ρ 31 := m38
  have m39 : γ 5 73 0 61 = ρ 32 := m39
  have m40 : γ 5 15 0 14 = ρ 33 := m40
  have m41 : γ 5 15 0 36 = ρ 13 := m41
  have m42 : γ 5 15 0 37 = ρ 34 := m42
  have m43 : γ 5 15 0 38 = ρ 35 := m43
  have m44 : γ 5 15 0 40 = ρ 36 := m44
  have m45 : γ 5 15 0 45 = ρ 37 := m45
  have m46 : γ 6 15 0 35 = ρ 38 := m46
  have m47 : γ 7 15 0 36 = ρ 13 := m47
  have m48 : γ 14 15 0 72 = ρ 39 := m48
  have m49 : γ 14 15 0 77 = ρ 40 := m49
  have m50 : γ 14 15 0 94 = ρ 41 := m50
  have m51 : γ 15 15 0 0 = ρ 40 := m51
  have m52 : γ 8 75 0 61 = ρ 42 := m52
  obtain ⟨⟨⟨⟨⟨⟨⟨⟨⟨⟨⟨⟨⟨⟨⟨⟨⟨⟨-, c1⟩, c2⟩, c3⟩, c4⟩, c5⟩, c6⟩, c7⟩, c8⟩, c9⟩, c10⟩, c11⟩, c12⟩, c13⟩, c14⟩, c15⟩, c16⟩, c17⟩, c18⟩ := hc
  have c1 : ∀ (G : Nat) (k j : Int), ¬ rMdP m5_ G j → γ 1 G k j = γ 0 G k j := c1
  have c2 : ∀ (G : Nat) (k j : Int), ¬ rMdP m1_ G j → γ 2 G k j = γ 1 G k j := c2
  have c3 : γ 3 = rUp (γ 2) 15 0 14 (ρ 3) := c3
  have c4 : ∀ (G : Nat) (k j : Int), ¬ rMdP m22_ G j → γ 4 G k j = γ 3 G k j := c4
  have c5 : ∀ (G : Nat) (k j : Int), ¬ rMdP m27_ G j → γ 5 G k j = γ 4 G k j := c5
  have c6 : ∀ (G : Nat) (k j : Int), ¬ rMdP m6_ G j → γ 6 G k j = γ 5 G k j := c6
  have c7 : ∀ (G : Nat) (k j : Int), ¬ rMdP m7_ G j → γ 7 G k j = γ 6 G k j := c7
  have c8 : ∀ (G : Nat) (k j : Int), ¬ rMdP m28_ G j → γ 8 G k j = γ 7 G k j := c8
  have c9 : γ 9 = rUp (γ 8) 15 0 81 (ρ 20) := c9
  have c10 : γ 10 = rUp (γ 9) 15 0 84 0 := c10
  have c11 : γ 11 = rUp (γ 10) 15 0 72 0 := c11
  have c12 : γ 12 = rUp (γ 11) 15 0 77 0 := c12
  have c13 : γ 13 = rUp (γ 12) 15 0 94 0 := c13
  have c14 : ∀ (G : Nat) (k j : Int), ¬ rMdP m50_ G j → γ 14 G k j = γ 13 G k j := c14
  have c15 : ∀ (G : Nat) (k j : Int), ¬ rMdP m1_ G j → γ 15 G k j = γ 14 G k j := c15
  have c16 : γ 16 = rUp (γ 15) 15 0 74 (ρ 39) := c16
  have c17 : γ 17 = rUp (γ 16) 15 0 93 (ρ 41) := c17
  have c18 : γ 18 = rUp (γ 17) 15 0 95 (ρ 42) := c18
  obtain ⟨l0, l1, l2, l3, l4, l5, l6, l7, l8, -⟩ := hl
  have l0 : sn5 [ρ 2, ρ 11, ρ 12] (γ 0) 0 0 (γ 1) := hS5 _ _ _ _ _ l0
  have l1 : sn1 [0, ρ 8] (γ 1) 0 0 (γ 2) := hS1 _ _ _ _ _ l1
  have l2 : sn32 [61, ρ 17, ρ 18, ρ 19] (γ 3) 0 0 (γ 4) := hS32 _ _ _ _ _ l2
  have l3 : sn38 [0, 0, ρ 2, ρ 0, ρ 1, 0, ρ 10, 61, ρ 27, ρ 3, ρ 13, ρ 14, ρ 15, ρ 16, 0] (γ 4) 0 1 (γ 5) := hS38 _ _ _ _ _ l3
  have l4 : sn7 [ρ 28, ρ 2] (γ 5) 0 0 (γ 6) := hS7 _ _ _ _ _ l4
  have l5 : sn28 [ρ 2, ρ 13, ρ 37, ρ 31] (γ 6) 0 1 (γ 7) := hS28 _ _ _ _ _ l5
  have l6 : sn44 [61, ρ 32, ρ 37] (γ 7) 0 0 (γ 8) := hS44 _ _ _ _ _ l6
  have l8 : sn1 [ρ 40, 0] (γ 14) 0 0 (γ 15) := hS1 _ _ _ _ _ l8
  show jr91 [ρ 0, ρ 1, ρ 2, ρ 3, ρ 4, ρ 5, ρ 6, ρ 7, ρ 8, ρ 9, ρ 10, ρ 11, ρ 12, ρ 13, ρ 14, ρ 15, ρ 16, ρ 17, ρ 18, ρ 19, ρ 20, ρ 21, ρ 22, ρ 23, ρ 24, ρ 25, ρ 26] (γ 0) 0 [ρ 0, ρ 1, ρ 2, ρ 3, ρ 4, ρ 5, ρ 6, ρ 7, ρ 8, ρ 9, ρ 10, ρ 11, ρ 12, ρ 13, ρ 14, ρ 15, ρ 16, ρ 17, ρ 18, ρ 19, ρ 20, ρ 21, ρ 22, ρ 23, ρ 24, ρ 25, ρ 26, 0, ρ 29, ρ 30, 0, ρ 39, ρ 40, ρ 41, ρ 40, ρ 33, ρ 34, ρ 35, ρ 36, 61, ρ 37, ρ 31, ρ 39, ρ 41, ρ 42] (γ 18)
  have h7 : γ 0 15 0 59 ≠ 0 := by rw [m7]; omega
  have e1 : γ 1 = (fn5 [] (γ 0)).2.2 := congrArg (fun r : zR => r.2.2) l0
  have e2 : γ 2 = rUp (γ 1) 15 0 0 0 := congrArg (fun r : zR => r.2.2) l1
  have e4 : γ 4 = (fn32 [61] (γ 3)).2.2 := congrArg (fun r : zR => r.2.2) l2
  have e5 : γ 5 = (fn38 [0] (γ 4)).2.2 := congrArg (fun r : zR => r.2.2) l3
  have hb : hB1 (γ 0) = γ 5 := by
    unfold hB1
    unfold hpB
    rw [if_pos h7, ← e1, ← e2, m3, ← c3, ← e4, ← e5]
  show eqM (hB1 (γ 0)) (γ 18)
  rw [hb]
  have h44 : γ 7 15 0 44 = 61 := ((zKo (G := 15) (n := 44) (by decide) (ms := m7_) (by decide +kernel) c7 0).trans ((zKo (G := 15) (n := 44) (by decide) (ms := m6_) (by decide +kernel) c6 0).trans ((zKo (G := 15) (n := 44) (by decide) (ms := m27_) (by decide +kernel) c5 0).trans (f32_44 e4))))
  exact (eqM_tr (eqM_k (ms := m6_) (by decide +kernel) c6) (eqM_tr (eqM_k (ms := m7_) (by decide +kernel) c7) (eqM_tr (eqM_44 (congrArg (fun r : zR => r.2.2) l6) h44) (eqM_tr (eqM_fl c9 (by decide)) (eqM_tr (eqM_fl c10 (by decide)) (eqM_tr (eqM_fl c11 (by decide)) (eqM_tr (eqM_fl c12 (by decide)) (eqM_tr (eqM_fl c13 (by decide)) (eqM_tr (eqM_k (ms := m50_) (by decide +kernel) c14) (eqM_tr (eqM_k (ms := m1_) (by decide +kernel) c15) (eqM_tr (eqM_fl c16 (by decide)) (eqM_tr (eqM_fl c17 (by decide)) (eqM_fl c18 (by decide))))))))))))))
theorem wn91_3 {S : Nat → zSpc} (hS1 : ∀ x g o v gz, S 1 x g o v gz → sn1 x g o v gz) (hS5 : ∀ x g o v gz, S 5 x g o v gz → sn5 x g o v gz) (hS7 : ∀ x g o v gz, S 7 x g o v gz → sn7 x g o v gz) (hS8 : ∀ x g o v gz, S 8 x g o v gz → sn8 x g o v gz) (hS28 : ∀ x g o v gz, S 28 x g o v gz → sn28 x g o v gz) (hS32 : ∀ x g o v gz, S 32 x g o v gz → sn32 x g o v gz) (hS38 : ∀ x g o v gz, S 38 x g o v gz → sn38 x g o v gz) (hS44 : ∀ x g o v gz, S 44 x g o v gz → sn44 x g o v gz) {a : List Int} {g : rHp} : ∀ (ρ : Nat → Int) (γ : Nat → rHp), zO 27 S a g q91_3 ρ γ → zGl (fun i vs g1 => jr91 a g i vs g1) (sr91 a g) q91_3 ρ γ := by
  intro ρ γ h
  obtain ⟨ha, hg, hr, hf, hm, hc, hl⟩ := h
  have ha : a = [ρ 0, ρ 1, ρ 2, ρ 3, ρ 4, ρ 5, ρ 6, ρ 7, ρ 8, ρ 9, ρ 10, ρ 11, ρ 12, ρ 13, ρ 14, ρ 15, ρ 16, ρ 17, ρ 18, ρ 19, ρ 20, ρ 21, ρ 22, ρ 23, ρ 24, ρ 25, ρ 26] := ha
  subst ha
  subst hg
  obtain ⟨r0, r1, r2, r3, r4, r5, r6, r7, r8, r9, r10, r11, r12, r13, r14, r15, r16, r17, r18, r19, r20, r21, r22, r23, r24, r25, r26, r27, r28, r29, r30, r31, r32, r33, r34, r35, r36, r37, r38, r39, r40, r41, -⟩ := hr
  have r0 : (0 : Int) ≤ ρ 0 ∧ ρ 0 ≤ 12288 := r0
  have r1 : (0 : Int) ≤ ρ 1 ∧ ρ 1 ≤ 12288 := r1
  have r2 : (0 : Int) ≤ ρ 2 ∧ ρ 2 ≤ 2000 := r2
  have r3 : (0 : Int) ≤ ρ 3 ∧ ρ 3 ≤ 20 := r3
  have r4 : (0 : Int) ≤ ρ 4 ∧ ρ 4 ≤ 50001 := r4
  have r5 : (0 : Int) ≤ ρ 5 ∧ ρ 5 ≤ 3 := r5
  have r6 : (0 : Int) ≤ ρ 6 ∧ ρ 6 ≤ 50001 := r6
  have r7 : (1 : Int) ≤ ρ 7 ∧ ρ 7 ≤ 1 := r7
  have r8 : (0 : Int) ≤ ρ 8 ∧ ρ 8 ≤ 3 := r8
  have r9 : (0 : Int) ≤ ρ 9 ∧ ρ 9 ≤ 20 := r9
  have r10 : (0 : Int) ≤ ρ 10 ∧ ρ 10 ≤ 60 := r10
  have r11 : (0 : Int) ≤ ρ 11 ∧ ρ 11 ≤ 2000 := r11
  have r12 : (0 : Int) ≤ ρ 12 ∧ ρ 12 ≤ 2000 := r12
  have r13 : (0 : Int) ≤ ρ 13 ∧ ρ 13 ≤ 2000 := r13
  have r14 : (0 : Int) ≤ ρ 14 ∧ ρ 14 ≤ 2000 := r14
  have r15 : (0 : Int) ≤ ρ 15 ∧ ρ 15 ≤ 2000 := r15
  have r16 : (0 : Int) ≤ ρ 16 ∧ ρ 16 ≤ 3 := r16
  have r17 : (0 : Int) ≤ ρ 17 ∧ ρ 17 ≤ 61 := r17
  have r18 : ((-2147483648) : Int) ≤ ρ 18 ∧ ρ 18 ≤ 2147483647 := r18
  have r19 : (0 : Int) ≤ ρ 19 ∧ ρ 19 ≤ 64 := r19
  have r20 : (0 : Int) ≤ ρ 20 ∧ ρ 20 ≤ 2000 := r20
  have r21 : ((-2147483648) : Int) ≤ ρ 21 ∧ ρ 21 ≤ 2147483647 := r21
  have r22 : (0 : Int) ≤ ρ 22 ∧ ρ 22 ≤ 2000 := r22
  have r23 : (0 : Int) ≤ ρ 23 ∧ ρ 23 ≤ 2000 := r23
  have r24 : (0 : Int) ≤ ρ 24 ∧ ρ 24 ≤ 2000 := r24
  have r25 : (0 : Int) ≤ ρ 25 ∧ ρ 25 ≤ 50001 := r25
  have r26 : ((-2147483648) : Int) ≤ ρ 26 ∧ ρ 26 ≤ 2147483647 := r26
  have r27 : (0 : Int) ≤ ρ 27 ∧ ρ 27 ≤ 8 := r27
  have r28 : (0 : Int) ≤ ρ 28 ∧ ρ 28 ≤ 2000 := r28
  have r29 : (0 : Int) ≤ ρ 29 ∧ ρ 29 ≤ 12288 := r29
  have r30 : (0 : Int) ≤ ρ 30 ∧ ρ 30 ≤ 12288 := r30
  have r31 : (0 : Int) ≤ ρ 31 ∧ ρ 31 ≤ 43 := r31
  have r32 : (0 : Int) ≤ ρ 32 ∧ ρ 32 ≤ 8 := r32
  have r33 : (0 : Int) ≤ ρ 33 ∧ ρ 33 ≤ 20 := r33
  have r34 : (0 : Int) ≤ ρ 34 ∧ ρ 34 ≤ 2000 := r34
  have r35 : (0 : Int) ≤ ρ 35 ∧ ρ 35 ≤ 2000 := r35
  have r36 : (0 : Int) ≤ ρ 36 ∧ ρ 36 ≤ 3 := r36
  have r37 : ((-2147483648) : Int) ≤ ρ 37 ∧ ρ 37 ≤ 2147483647 := r37
  have r38 : (0 : Int) ≤ ρ 38 ∧ ρ 38 ≤ 2000 := r38
  have r39 : (0 : Int) ≤ ρ 39 ∧ ρ 39 ≤ 50001 := r39
  have r40 : (1 : Int) ≤ ρ 40 ∧ ρ 40 ≤ 3 := r40
  have r41 : (0 : Int) ≤ ρ 41 ∧ ρ 41 ≤ 50001 := r41
  obtain ⟨f0, f1, f2, f3, f4, f5, f6, f7, f8, f9, f10, f11, f12, f13, f14, -⟩ := hf
  have f0 : (0 : Int) ≤ -ρ 41 + ρ 39 + 1 := f0
  have f1 : (0 : Int) ≤ ρ 40 + -ρ 39 + 50000 := f1
  have f2 : (0 : Int) ≤ -ρ 38 + ρ 2 := f2
  have f3 : (0 : Int) ≤ ρ 38 + -ρ 2 := f3
  have f4 : (0 : Int) ≤ -ρ 28 + ρ 2 := f4
  have f5 : (0 : Int) ≤ ρ 38 + -ρ 28 := f5
  have f6 : (0 : Int) ≤ -ρ 2 + -ρ 0 + 12288 := f6
  have f7 : (0 : Int) ≤ -ρ 2 + -ρ 1 + 12288 := f7
  have f8 : (0 : Int) ≤ ρ 29 + -ρ 0 := f8
  have f9 : (0 : Int) ≤ ρ 30 + -ρ 1 := f9
  have f10 : (0 : Int) ≤ ρ 32 + -ρ 27 := f10
  have f11 : (0 : Int) ≤ ρ 33 + -ρ 3 := f11
  have f12 : (0 : Int) ≤ -ρ 29 + (ρ 28 + ρ 0) := f12
  have f13 : (0 : Int) ≤ -ρ 30 + (ρ 28 + ρ 1) := f13
  have f14 : (0 : Int) ≤ 4 * ρ 32 + -ρ 31 + 6 := f14
  obtain ⟨m0, m1, m2, m3, m4, m5, m6, m7, m8, m9, m10, m11, m12, m13, m14, m15, m16, m17, m18, m19, m20, m21, m22, m23, m24, m25, m26, m27, m28, m29, m30, m31, m32, m33, m34, m35, m36, m37, m38, m39, m40, m41, m42, m43, m44, m45, m46, m47, m48, m49, m50, m51, -⟩ := hm
  have m0 : γ 0 15 0 8 = ρ 0 := m0
  have m1 : γ 0 15 0 9 = ρ 1 := m1
  have m2 : γ 0 15 0 3 = ρ 2 := m2
  have m3 : γ 0 15 0 13 = ρ 3 := m3
  have m4 : γ 0 15 0 72 = ρ 4 := m4
  have m5 : γ 0 15 0 77 = ρ 5 := m5
  have m6 : γ 0 15 0 94 = ρ 6 := m6
  have m7 : γ 0 15 0 59 = ρ 7 := m7
  have m8 : γ 0 15 0 0 = ρ 8 := m8
  have m9 : γ 0 15 0 14 = ρ 9 := m9
  have m10 : γ 0 15 0 32 = ρ 10 := m10
  have m11 : γ 0 15 0 34 = ρ 11 := m11
  have m12 : γ 0 15 0 35 = ρ 12 := m12
  have m13 : γ 0 15 0 36 = ρ 13 := m13
  have m14 : γ 0 15 0 37 = ρ 14 := m14
  have m15 : γ 0 15 0 38 = ρ 15 := m15
  have m16 : γ 0 15 0 40 = ρ 16 := m16
  have m17 : γ 0 15 0 44 = ρ 17 := m17
  have m18 : γ 0 15 0 45 = ρ 18 := m18
  have m19 : γ 0 15 0 58 = ρ 19 := m19
  have m20 : γ 0 15 0 71 = ρ 20 := m20
  have m21 : γ 0 15 0 74 = ρ 21 := m21
  have m22 : γ 0 15 0 81 = ρ 22 := m22
  have m23 : γ 0 15 0 82 = ρ 23 := m23
  have m24 : γ 0 15 0 83 = ρ 24 := m24
  have m25 : γ 0 15 0 93 = ρ 25 := m25
  have m26 : γ 0 15 0 95 = ρ 26 := m26
  have m27 : γ 1 15 0 3 = 0 := m27
  have m28 : γ 1 15 0 34 = ρ 2 := m28
  have m29 : γ 1 15 0 35 = 0 := m29
  have m30 : γ 2 15 0 0 = 0 := m30
  have m31 : γ 4 15 0 44 = 61 := m31
  have m32 : γ 4 15 0 45 = 0 := m32
  have m33 : γ 4 15 0 58 = 0 := m33
  have m34 : γ 4 73 0 61 = ρ 27 := m34
  have m35 : γ 5 15 0 35 = ρ 28 := m35
  have m36 : γ 5 15 0 8 = ρ 29 := m36
  have m37 : γ 5 15 0 9 = ρ 30 := m37
  have m38 : γ 5 15 0 58 = ρ 31 := m38
  have m39 : γ 5 73 0 61 = ρ 32 := m39
  have m40 : γ 5 15 0 14 = ρ 33 := m40
  have m41 : γ 5 15 0 36 = ρ 13 := m41
  have m42 : γ 5 15 0 37 = ρ 34 := m42
  have m43 : γ 5 15 0 38 = ρ 35 := m43
  have m44 : γ 5 15 0 40 = ρ 36 := m44
  have m45 : γ 5 15 0 45 = ρ 37 := m45
  have m46 : γ 6 15 0 35 = ρ 38 := m46
  have m47 : γ 7 15 0 36 = ρ 13 := m47
  have m48 : γ 14 15 0 72 = ρ 39 := m48
  have m49 : γ 14 15 0 77 = ρ 40 := m49
  have m50 : γ 14 15 0 94 = ρ 41 := m50
  have m51 : γ 15 15 0 0 = ρ 40 := m51
  obtain ⟨⟨⟨⟨⟨⟨⟨⟨⟨⟨⟨⟨⟨⟨⟨-, c1⟩, c2⟩, c3⟩, c4⟩, c5⟩, c6⟩, c7⟩, c8⟩, c9⟩, c10⟩, c11⟩, c12⟩, c13⟩, c14⟩, c15⟩ := hc
  have c1 : ∀ (G : Nat) (k j : Int), ¬ rMdP m5_ G j → γ 1 G k j = γ 0 G k j := c1
  have c2 : ∀ (G : Nat) (k j : Int), ¬ rMdP m1_ G j → γ 2 G k j = γ 1 G k j := c2
  have c3 : γ 3 = rUp (γ 2) 15 0 14 (ρ 3) := c3
  have c4 : ∀ (G : Nat) (k j : Int), ¬ rMdP m22_ G j → γ 4 G k j = γ 3 G k j := c4
  have c5 : ∀ (G : Nat) (k j : Int), ¬ rMdP m27_ G j → γ 5 G k j = γ 4 G k j := c5
  have c6 : ∀ (G : Nat) (k j : Int), ¬ rMdP m6_ G j → γ 6 G k j = γ 5 G k j := c6
  have c7 : ∀ (G : Nat) (k j : Int), ¬ rMdP m7_ G j → γ 7 G k j = γ 6 G k j := c7
  have c8 : ∀ (G : Nat) (k j : Int), ¬ rMdP m28_ G j → γ 8 G k j = γ 7 G k j := c8
  have c9 : γ 9 = rUp (γ 8) 15 0 81 (ρ 20) := c9
  have c10 : γ 10 = rUp (γ 9) 15 0 84 0 := c10
  have c11 : γ 11 = rUp (γ 10) 15 0 72 0 := c11
  have c12 : γ 12 = rUp (γ 11) 15 0 77 0 := c12
  have c13 : γ 13 = rUp (γ 12) 15 0 94 0 := c13
  have c14 : ∀ (G : Nat) (k j : Int), ¬ rMdP m50_ G j → γ 14 G k j = γ 13 G k j := c14
  have c15 : ∀ (G : Nat) (k j : Int), ¬ rMdP m1_ G j → γ 15 G k j = γ 14 G k j := c15
  obtain ⟨l0, l1, l2, l3, l4, l5, l6, l7, l8, -⟩ := hl
  have l0 : sn5 [ρ 2, ρ 11, ρ 12] (γ 0) 0 0 (γ 1) := hS5 _ _ _ _ _ l0
  have l1 : sn1 [0, ρ 8] (γ 1) 0 0 (γ 2) := hS1 _ _ _ _ _ l1
  have l2 : sn32 [61, ρ 17, ρ 18, ρ 19] (γ 3) 0 0 (γ 4) := hS32 _ _ _ _ _ l2
  have l3 : sn38 [0, 0, ρ 2, ρ 0, ρ 1, 0, ρ 10, 61, ρ 27, ρ 3, ρ 13, ρ 14, ρ 15, ρ 16, 0] (γ 4) 0 1 (γ 5) := hS38 _ _ _ _ _ l3
  have l4 : sn7 [ρ 28, ρ 2] (γ 5) 0 0 (γ 6) := hS7 _ _ _ _ _ l4
  have l5 : sn28 [ρ 2, ρ 13, ρ 37, ρ 31] (γ 6) 0 1 (γ 7) := hS28 _ _ _ _ _ l5
  have l6 : sn44 [61, ρ 32, ρ 37] (γ 7) 0 0 (γ 8) := hS44 _ _ _ _ _ l6
  have l8 : sn1 [ρ 40, 0] (γ 14) 0 1 (γ 15) := hS1 _ _ _ _ _ l8
  show sr91 [ρ 0, ρ 1, ρ 2, ρ 3, ρ 4, ρ 5, ρ 6, ρ 7, ρ 8, ρ 9, ρ 10, ρ 11, ρ 12, ρ 13, ρ 14, ρ 15, ρ 16, ρ 17, ρ 18, ρ 19, ρ 20, ρ 21, ρ 22, ρ 23, ρ 24, ρ 25, ρ 26] (γ 0) 0 0 (γ 15)
  have h7 : γ 0 15 0 59 ≠ 0 := by rw [m7]; omega
  have e1 : γ 1 = (fn5 [] (γ 0)).2.2 := congrArg (fun r : zR => r.2.2) l0
  have e2 : γ 2 = rUp (γ 1) 15 0 0 0 := congrArg (fun r : zR => r.2.2) l1
  have e4 : γ 4 = (fn32 [61] (γ 3)).2.2 := congrArg (fun r : zR => r.2.2) l2
  have e5 : γ 5 = (fn38 [0] (γ 4)).2.2 := congrArg (fun r : zR => r.2.2) l3
  have hb : hB1 (γ 0) = γ 5 := by
    unfold hB1
    unfold hpB
    rw [if_pos h7, ← e1, ← e2, m3, ← c3, ← e4, ← e5]
  show eqM (hB1 (γ 0)) (γ 15)
  rw [hb]
  have h44 : γ 7 15 0 44 = 61 := ((zKo (G := 15) (n := 44) (by decide) (ms := m7_) (by decide +kernel) c7 0).trans ((zKo (G := 15) (n := 44) (by decide) (ms := m6_) (by decide +kernel) c6 0).trans ((zKo (G := 15) (n := 44) (by decide) (ms := m27_) (by decide +kernel) c5 0).trans (f32_44 e4))))
  exact (eqM_tr (eqM_k (ms := m6_) (by decide +kernel) c6) (eqM_tr (eqM_k (ms := m7_) (by decide +kernel) c7) (eqM_tr (eqM_44 (congrArg (fun r : zR => r.2.2) l6) h44) (eqM_tr (eqM_fl c9 (by decide)) (eqM_tr (eqM_fl c10 (by decide)) (eqM_tr (eqM_fl c11 (by decide)) (eqM_tr (eqM_fl c12 (by decide)) (eqM_tr (eqM_fl c13 (by decide)) (eqM_tr (eqM_k (ms := m50_) (by decide +kernel) c14) (eqM_k (ms := m1_) (by decide +kernel) c15))))))))))
theorem wn91_4 {S : Nat → zSpc} (hS1 : ∀ x g o v gz, S 1 x g o v gz → sn1 x g o v gz) (hS5 : ∀ x g o v gz, S 5 x g o v gz → sn5 x g o v gz) (hS7 : ∀ x g o v gz, S 7 x g o v gz → sn7 x g o v gz) (hS8 : ∀ x g o v gz, S 8 x g o v gz → sn8 x g o v gz) (hS28 : ∀ x g o v gz, S 28 x g o v gz → sn28 x g o v gz) (hS32 : ∀ x g o v gz, S 32 x g o v gz → sn32 x g o v gz) (hS38 : ∀ x g o v gz, S 38 x g o v gz → sn38 x g o v gz) (hS44 : ∀ x g o v gz, S 44 x g o v gz → sn44 x g o v gz) {a : List Int} {g : rHp} : ∀ (ρ : Nat → Int) (γ : Nat → rHp), zO 27 S a g q91_4 ρ γ → zGl (fun i vs g1 => jr91 a g i vs g1) (sr91 a g) q91_4 ρ γ := by
  intro ρ γ h
  obtain ⟨ha, hg, hr, hf, hm, hc, hl⟩ := h
  have ha : a = [ρ 0, ρ 1, ρ 2, ρ 3, ρ 4, ρ 5, ρ 6, ρ 7, ρ 8, ρ 9, ρ 10, ρ 11, ρ 12, ρ 13, ρ 14, ρ 15, ρ 16, ρ 17, ρ 18, ρ 19, ρ 20, ρ 21, ρ 22, ρ 23, ρ 24, ρ 25, ρ 26] := ha
  subst ha
  subst hg
  obtain ⟨r0, r1, r2, r3, r4, r5, r6, r7, r8, r9, r10, r11, r12, r13, r14, r15, r16, r17, r18, r19, r20, r21, r22, r23, r24, r25, r26, r27, r28, r29, r30, r31, r32, r33, r34, r35, r36, r37, r38, r39, -⟩ := hr
  have r0 : (0 : Int) ≤ ρ 0 ∧ ρ 0 ≤ 12288 := r0
  have r1 : (0 : Int) ≤ ρ 1 ∧ ρ 1 ≤ 12288 := r1
  have r2 : (0 : Int) ≤ ρ 2 ∧ ρ 2 ≤ 2000 := r2
  have r3 : (0 : Int) ≤ ρ 3 ∧ ρ 3 ≤ 20 := r3
  have r4 : (0 : Int) ≤ ρ 4 ∧ ρ 4 ≤ 50001 := r4
  have r5 : (0 : Int) ≤ ρ 5 ∧ ρ 5 ≤ 3 := r5
  have r6 : (0 : Int) ≤ ρ 6 ∧ ρ 6 ≤ 50001 := r6
  have r7 : (1 : Int) ≤ ρ 7 ∧ ρ 7 ≤ 1 := r7
  have r8 : (0 : Int) ≤ ρ 8 ∧ ρ 8 ≤ 3 := r8
  have r9 : (0 : Int) ≤ ρ 9 ∧ ρ 9 ≤ 20 := r9
  have r10 : (0 : Int) ≤ ρ 10 ∧ ρ 10 ≤ 60 := r10
  have r11 : (0 : Int) ≤ ρ 11 ∧ ρ 11 ≤ 2000 := r11
  have r12 : (0 : Int) ≤ ρ 12 ∧ ρ 12 ≤ 2000 := r12
  have r13 : (0 : Int) ≤ ρ 13 ∧ ρ 13 ≤ 2000 := r13
  have r14 : (0 : Int) ≤ ρ 14 ∧ ρ 14 ≤ 2000 := r14
  have r15 : (0 : Int) ≤ ρ 15 ∧ ρ 15 ≤ 2000 := r15
  have r16 : (0 : Int) ≤ ρ 16 ∧ ρ 16 ≤ 3 := r16
  have r17 : (0 : Int) ≤ ρ 17 ∧ ρ 17 ≤ 61 := r17
  have r18 : ((-2147483648) : Int) ≤ ρ 18 ∧ ρ 18 ≤ 2147483647 := r18
  have r19 : (0 : Int) ≤ ρ 19 ∧ ρ 19 ≤ 64 := r19
  have r20 : (0 : Int) ≤ ρ 20 ∧ ρ 20 ≤ 2000 := r20
  have r21 : ((-2147483648) : Int) ≤ ρ 21 ∧ ρ 21 ≤ 2147483647 := r21
  have r22 : (0 : Int) ≤ ρ 22 ∧ ρ 22 ≤ 2000 := r22
  have r23 : (0 : Int) ≤ ρ 23 ∧ ρ 23 ≤ 2000 := r23
  have r24 : (0 : Int) ≤ ρ 24 ∧ ρ 24 ≤ 2000 := r24
  have r25 : (0 : Int) ≤ ρ 25 ∧ ρ 25 ≤ 50001 := r25
  have r26 : ((-2147483648) : Int) ≤ ρ 26 ∧ ρ 26 ≤ 2147483647 := r26
  have r27 : (0 : Int) ≤ ρ 27 ∧ ρ 27 ≤ 8 := r27
  have r28 : (0 : Int) ≤ ρ 28 ∧ ρ 28 ≤ 2000 := r28
  have r29 : (0 : Int) ≤ ρ 29 ∧ ρ 29 ≤ 12288 := r29
  have r30 : (0 : Int) ≤ ρ 30 ∧ ρ 30 ≤ 12288 := r30
  have r31 : (0 : Int) ≤ ρ 31 ∧ ρ 31 ≤ 43 := r31
  have r32 : (0 : Int) ≤ ρ 32 ∧ ρ 32 ≤ 8 := r32
  have r33 : (0 : Int) ≤ ρ 33 ∧ ρ 33 ≤ 20 := r33
  have r34 : (0 : Int) ≤ ρ 34 ∧ ρ 34 ≤ 2000 := r34
  have r35 : (0 : Int) ≤ ρ 35 ∧ ρ 35 ≤ 2000 := r35
  have r36 : (0 : Int) ≤ ρ 36 ∧ ρ 36 ≤ 3 := r36
  have r37 : ((-2147483648) : Int) ≤ ρ 37 ∧ ρ 37 ≤ 2147483647 := r37
  have r38 : (0 : Int) ≤ ρ 38 ∧ ρ 38 ≤ 2000 := r38
  have r39 : (0 : Int) ≤ ρ 39 ∧ ρ 39 ≤ 2000 := r39
  obtain ⟨f0, f1, f2, f3, f4, f5, f6, f7, f8, f9, f10, f11, f12, f13, f14, -⟩ := hf
  have f0 : (0 : Int) ≤ -ρ 39 + ρ 38 := f0
  have f1 : (0 : Int) ≤ -ρ 39 + ρ 2 := f1
  have f2 : (0 : Int) ≤ -ρ 38 + ρ 2 + (-1) := f2
  have f3 : (0 : Int) ≤ -ρ 28 + ρ 2 := f3
  have f4 : (0 : Int) ≤ ρ 38 + -ρ 28 := f4
  have f5 : (0 : Int) ≤ -ρ 38 + ρ 2 := f5
  have f6 : (0 : Int) ≤ -ρ 2 + -ρ 0 + 12288 := f6
  have f7 : (0 : Int) ≤ -ρ 2 + -ρ 1 + 12288 := f7
  have f8 : (0 : Int) ≤ ρ 29 + -ρ 0 := f8
  have f9 : (0 : Int) ≤ ρ 30 + -ρ 1 := f9
  have f10 : (0 : Int) ≤ ρ 32 + -ρ 27 := f10
  have f11 : (0 : Int) ≤ ρ 33 + -ρ 3 := f11
  have f12 : (0 : Int) ≤ -ρ 29 + (ρ 28 + ρ 0) := f12
  have f13 : (0 : Int) ≤ -ρ 30 + (ρ 28 + ρ 1) := f13
  have f14 : (0 : Int) ≤ 4 * ρ 32 + -ρ 31 + 6 := f14
  obtain ⟨m0, m1, m2, m3, m4, m5, m6, m7, m8, m9, m10, m11, m12, m13, m14, m15, m16, m17, m18, m19, m20, m21, m22, m23, m24, m25, m26, m27, m28, m29, m30, m31, m32, m33, m34, m35, m36, m37, m38, m39, m40, m41, m42, m43, m44, m45, m46, m47, -⟩ := hm
  have m0 : γ 0 15 0 8 = ρ 0 := m0
  have m1 : γ 0 15 0 9 = ρ 1 := m1
  have m2 : γ 0 15 0 3 = ρ 2 := m2
  have m3 : γ 0 15 0 13 = ρ 3 := m3
  have m4 : γ 0 15 0 72 = ρ 4 := m4
  have m5 : γ 0 15 0 77 = ρ 5 := m5
  have m6 : γ 0 15 0 94 = ρ 6 := m6
  have m7 : γ 0 15 0 59 = ρ 7 := m7
  have m8 : γ 0 15 0 0 = ρ 8 := m8
  have m9 : γ 0 15 0 14 = ρ 9 := m9
  have m10 : γ 0 15 0 32 = ρ 10 := m10
  have m11 : γ 0 15 0 34 = ρ 11 := m11
  have m12 : γ 0 15 0 35 = ρ 12 := m12
  have m13 : γ 0 15 0 36 = ρ 13 := m13
  have m14 : γ 0 15 0 37 = ρ 14 := m14
  have m15 : γ 0 15 0 38 = ρ 15 := m15
  have m16 : γ 0 15 0 40 = ρ 16 := m16
  have m17 : γ 0 15 0 44 = ρ 17 := m17
  have m18 : γ 0 15 0 45 = ρ 18 := m18
  have m19 : γ 0 15 0 58 = ρ 19 := m19
  have m20 : γ 0 15 0 71 = ρ 20 := m20
  have m21 : γ 0 15 0 74 = ρ 21 := m21
  have m22 : γ 0 15 0 81 = ρ 22 := m22
  have m23 : γ 0 15 0 82 = ρ 23 := m23
  have m24 : γ 0 15 0 83 = ρ 24 := m24
  have m25 : γ 0 15 0 93 = ρ 25 := m25
  have m26 : γ 0 15 0 95 = ρ 26 := m26
  have m27 : γ 1 15 0 3 = 0 := m27
  have m28 : γ 1 15 0 34 = ρ 2 := m28
  have m29 : γ 1 15 0 35 = 0 := m29
  have m30 : γ 2 15 0 0 = 0 := m30
  have m31 : γ 4 15 0 44 = 61 := m31
  have m32 : γ 4 15 0 45 = 0 := m32
  have m33 : γ 4 15 0 58 = 0 := m33
  have m34 : γ 4 73 0 61 = ρ 27 := m34
  have m35 : γ 5 15 0 35 = ρ 28 := m35
  have m36 : γ 5 15 0 8 = ρ 29 := m36
  have m37 : γ 5 15 0 9 = ρ 30 := m37
  have m38 : γ 5 15 0 58 = ρ 31 := m38
  have m39 : γ 5 73 0 61 = ρ 32 := m39
  have m40 : γ 5 15 0 14 = ρ 33 := m40
  have m41 : γ 5 15 0 36 = ρ 13 := m41
  have m42 : γ 5 15 0 37 = ρ 34 := m42
  have m43 : γ 5 15 0 38 = ρ 35 := m43
  have m44 : γ 5 15 0 40 = ρ 36 := m44
  have m45 : γ 5 15 0 45 = ρ 37 := m45
  have m46 : γ 6 15 0 35 = ρ 38 := m46
  have m47 : γ 7 15 0 36 = ρ 39 := m47
  obtain ⟨⟨⟨⟨⟨⟨⟨-, c1⟩, c2⟩, c3⟩, c4⟩, c5⟩, c6⟩, c7⟩ := hc
  have c1 : ∀ (G : Nat) (k j : Int), ¬ rMdP m5_ G j → γ 1 G k j = γ 0 G k j := c1
  have c2 : ∀ (G : Nat) (k j : Int), ¬ rMdP m1_ G j → γ 2 G k j = γ 1 G k j := c2
  have c3 : γ 3 = rUp (γ 2) 15 0 14 (ρ 3) := c3
  have c4 : ∀ (G : Nat) (k j : Int), ¬ rMdP m22_ G j → γ 4 G k j = γ 3 G k j := c4
  have c5 : ∀ (G : Nat) (k j : Int), ¬ rMdP m27_ G j → γ 5 G k j = γ 4 G k j := c5
  have c6 : ∀ (G : Nat) (k j : Int), ¬ rMdP m6_ G j → γ 6 G k j = γ 5 G k j := c6
  have c7 : ∀ (G : Nat) (k j : Int), ¬ rMdP m7_ G j → γ 7 G k j = γ 6 G k j := c7
  obtain ⟨l0, l1, l2, l3, l4, l5, -⟩ := hl
  have l0 : sn5 [ρ 2, ρ 11, ρ 12] (γ 0) 0 0 (γ 1) := hS5 _ _ _ _ _ l0
  have l1 : sn1 [0, ρ 8] (γ 1) 0 0 (γ 2) := hS1 _ _ _ _ _ l1
  have l2 : sn32 [61, ρ 17, ρ 18, ρ 19] (γ 3) 0 0 (γ 4) := hS32 _ _ _ _ _ l2
  have l3 : sn38 [0, 0, ρ 2, ρ 0, ρ 1, 0, ρ 10, 61, ρ 27, ρ 3, ρ 13, ρ 14, ρ 15, ρ 16, 0] (γ 4) 0 1 (γ 5) := hS38 _ _ _ _ _ l3
  have l4 : sn7 [ρ 28, ρ 2] (γ 5) 0 0 (γ 6) := hS7 _ _ _ _ _ l4
  have l5 : sn8 [ρ 38, ρ 2, ρ 13] (γ 6) 0 0 (γ 7) := hS8 _ _ _ _ _ l5
  show sr91 [ρ 0, ρ 1, ρ 2, ρ 3, ρ 4, ρ 5, ρ 6, ρ 7, ρ 8, ρ 9, ρ 10, ρ 11, ρ 12, ρ 13, ρ 14, ρ 15, ρ 16, ρ 17, ρ 18, ρ 19, ρ 20, ρ 21, ρ 22, ρ 23, ρ 24, ρ 25, ρ 26] (γ 0) 0 (-ρ 39 + (-1)) (γ 7)
  have h7 : γ 0 15 0 59 ≠ 0 := by rw [m7]; omega
  have e1 : γ 1 = (fn5 [] (γ 0)).2.2 := congrArg (fun r : zR => r.2.2) l0
  have e2 : γ 2 = rUp (γ 1) 15 0 0 0 := congrArg (fun r : zR => r.2.2) l1
  have e4 : γ 4 = (fn32 [61] (γ 3)).2.2 := congrArg (fun r : zR => r.2.2) l2
  have e5 : γ 5 = (fn38 [0] (γ 4)).2.2 := congrArg (fun r : zR => r.2.2) l3
  have hb : hB1 (γ 0) = γ 5 := by
    unfold hB1
    unfold hpB
    rw [if_pos h7, ← e1, ← e2, m3, ← c3, ← e4, ← e5]
  show eqM (hB1 (γ 0)) (γ 7)
  rw [hb]
  exact (eqM_tr (eqM_k (ms := m6_) (by decide +kernel) c6) (eqM_k (ms := m7_) (by decide +kernel) c7))
theorem wn91_5 {S : Nat → zSpc} (hS1 : ∀ x g o v gz, S 1 x g o v gz → sn1 x g o v gz) (hS5 : ∀ x g o v gz, S 5 x g o v gz → sn5 x g o v gz) (hS7 : ∀ x g o v gz, S 7 x g o v gz → sn7 x g o v gz) (hS8 : ∀ x g o v gz, S 8 x g o v gz → sn8 x g o v gz) (hS28 : ∀ x g o v gz, S 28 x g o v gz → sn28 x g o v gz) (hS32 : ∀ x g o v gz, S 32 x g o v gz → sn32 x g o v gz) (hS38 : ∀ x g o v gz, S 38 x g o v gz → sn38 x g o v gz) (hS44 : ∀ x g o v gz, S 44 x g o v gz → sn44 x g o v gz) {a : List Int} {g : rHp} : ∀ (ρ : Nat → Int) (γ : Nat → rHp), zO 27 S a g q91_5 ρ γ → zGl (fun i vs g1 => jr91 a g i vs g1) (sr91 a g) q91_5 ρ γ := by
  intro ρ γ h
  obtain ⟨ha, hg, hr, hf, hm, hc, hl⟩ := h
  have ha : a = [ρ 0, ρ 1, ρ 2, ρ 3, ρ 4, ρ 5, ρ 6, ρ 7, ρ 8, ρ 9, ρ 10, ρ 11, ρ 12, ρ 13, ρ 14, ρ 15, ρ 16, ρ 17, ρ 18, ρ 19, ρ 20, ρ 21, ρ 22, ρ 23, ρ 24, ρ 25, ρ 26] := ha
  subst ha
  subst hg
  obtain ⟨r0, r1, r2, r3, r4, r5, r6, r7, r8, r9, r10, r11, r12, r13, r14, r15, r16, r17, r18, r19, r20, r21, r22, r23, r24, r25, r26, -⟩ := hr
  have r0 : (0 : Int) ≤ ρ 0 ∧ ρ 0 ≤ 12288 := r0
  have r1 : (0 : Int) ≤ ρ 1 ∧ ρ 1 ≤ 12288 := r1
  have r2 : (0 : Int) ≤ ρ 2 ∧ ρ 2 ≤ 2000 := r2
  have r3 : (0 : Int) ≤ ρ 3 ∧ ρ 3 ≤ 20 := r3
  have r4 : (0 : Int) ≤ ρ 4 ∧ ρ 4 ≤ 50001 := r4
  have r5 : (0 : Int) ≤ ρ 5 ∧ ρ 5 ≤ 3 := r5
  have r6 : (0 : Int) ≤ ρ 6 ∧ ρ 6 ≤ 50001 := r6
  have r7 : (0 : Int) ≤ ρ 7 ∧ ρ 7 ≤ 0 := r7
  have r8 : (0 : Int) ≤ ρ 8 ∧ ρ 8 ≤ 3 := r8
  have r9 : (0 : Int) ≤ ρ 9 ∧ ρ 9 ≤ 20 := r9
  have r10 : (0 : Int) ≤ ρ 10 ∧ ρ 10 ≤ 60 := r10
  have r11 : (0 : Int) ≤ ρ 11 ∧ ρ 11 ≤ 2000 := r11
  have r12 : (0 : Int) ≤ ρ 12 ∧ ρ 12 ≤ 2000 := r12
  have r13 : (0 : Int) ≤ ρ 13 ∧ ρ 13 ≤ 2000 := r13
  have r14 : (0 : Int) ≤ ρ 14 ∧ ρ 14 ≤ 2000 := r14
  have r15 : (0 : Int) ≤ ρ 15 ∧ ρ 15 ≤ 2000 := r15
  have r16 : (0 : Int) ≤ ρ 16 ∧ ρ 16 ≤ 3 := r16
  have r17 : (0 : Int) ≤ ρ 17 ∧ ρ 17 ≤ 61 := r17
  have r18 : ((-2147483648) : Int) ≤ ρ 18 ∧ ρ 18 ≤ 2147483647 := r18
  have r19 : (0 : Int) ≤ ρ 19 ∧ ρ 19 ≤ 64 := r19
  have r20 : (0 : Int) ≤ ρ 20 ∧ ρ 20 ≤ 2000 := r20
  have r21 : ((-2147483648) : Int) ≤ ρ 21 ∧ ρ 21 ≤ 2147483647 := r21
  have r22 : (0 : Int) ≤ ρ 22 ∧ ρ 22 ≤ 2000 := r22
  have r23 : (0 : Int) ≤ ρ 23 ∧ ρ 23 ≤ 2000 := r23
  have r24 : (0 : Int) ≤ ρ 24 ∧ ρ 24 ≤ 2000 := r24
  have r25 : (0 : Int) ≤ ρ 25 ∧ ρ 25 ≤ 50001 := r25
  have r26 : ((-2147483648) : Int) ≤ ρ 26 ∧ ρ 26 ≤ 2147483647 := r26
  obtain ⟨f0, f1, -⟩ := hf
  have f0 : (0 : Int) ≤ -ρ 2 + -ρ 1 + 12288 := f0
  have f1 : (0 : Int) ≤ -ρ 2 + -ρ 0 + 12288 := f1
  obtain ⟨m0, m1, m2, m3, m4, m5, m6, m7, m8, m9, m10, m11, m12, m13, m14, m15, m16, m17, m18, m19, m20, m21, m22, m23, m24, m25, m26, m27, m28, m29, m30, -⟩ := hm
  have m0 : γ 0 15 0 8 = ρ 0 := m0
  have m1 : γ 0 15 0 9 = ρ 1 := m1
  have m2 : γ 0 15 0 3 = ρ 2 := m2
  have m3 : γ 0 15 0 13 = ρ 3 := m3
  have m4 : γ 0 15 0 72 = ρ 4 := m4
  have m5 : γ 0 15 0 77 = ρ 5 := m5
  have m6 : γ 0 15 0 94 = ρ 6 := m6
  have m7 : γ 0 15 0 59 = ρ 7 := m7
  have m8 : γ 0 15 0 0 = ρ 8 := m8
  have m9 : γ 0 15 0 14 = ρ 9 := m9
  have m10 : γ 0 15 0 32 = ρ 10 := m10
  have m11 : γ 0 15 0 34 = ρ 11 := m11
  have m12 : γ 0 15 0 35 = ρ 12 := m12
  have m13 : γ 0 15 0 36 = ρ 13 := m13
  have m14 : γ 0 15 0 37 = ρ 14 := m14
  have m15 : γ 0 15 0 38 = ρ 15 := m15
  have m16 : γ 0 15 0 40 = ρ 16 := m16
  have m17 : γ 0 15 0 44 = ρ 17 := m17
  have m18 : γ 0 15 0 45 = ρ 18 := m18
  have m19 : γ 0 15 0 58 = ρ 19 := m19
  have m20 : γ 0 15 0 71 = ρ 20 := m20
  have m21 : γ 0 15 0 74 = ρ 21 := m21
  have m22 : γ 0 15 0 81 = ρ 22 := m22
  have m23 : γ 0 15 0 82 = ρ 23 := m23
  have m24 : γ 0 15 0 83 = ρ 24 := m24
  have m25 : γ 0 15 0 93 = ρ 25 := m25
  have m26 : γ 0 15 0 95 = ρ 26 := m26
  have m27 : γ 1 15 0 3 = 0 := m27
  have m28 : γ 1 15 0 34 = ρ 2 := m28
  have m29 : γ 1 15 0 35 = 0 := m29
  have m30 : γ 2 15 0 0 = 1 := m30
  obtain ⟨⟨-, c1⟩, c2⟩ := hc
  have c1 : ∀ (G : Nat) (k j : Int), ¬ rMdP m5_ G j → γ 1 G k j = γ 0 G k j := c1
  have c2 : ∀ (G : Nat) (k j : Int), ¬ rMdP m1_ G j → γ 2 G k j = γ 1 G k j := c2
  obtain ⟨l0, l1, -⟩ := hl
  have l0 : sn5 [ρ 2, ρ 11, ρ 12] (γ 0) 0 0 (γ 1) := hS5 _ _ _ _ _ l0
  have l1 : sn1 [1, ρ 8] (γ 1) 0 1 (γ 2) := hS1 _ _ _ _ _ l1
  show sr91 [ρ 0, ρ 1, ρ 2, ρ 3, ρ 4, ρ 5, ρ 6, ρ 7, ρ 8, ρ 9, ρ 10, ρ 11, ρ 12, ρ 13, ρ 14, ρ 15, ρ 16, ρ 17, ρ 18, ρ 19, ρ 20, ρ 21, ρ 22, ρ 23, ρ 24, ρ 25, ρ 26] (γ 0) 0 0 (γ 2)
  have h7 : ¬ γ 0 15 0 59 ≠ 0 := by rw [m7]; omega
  have e1 : γ 1 = (fn5 [] (γ 0)).2.2 := congrArg (fun r : zR => r.2.2) l0
  have e2 : γ 2 = rUp (γ 1) 15 0 0 1 := congrArg (fun r : zR => r.2.2) l1
  have hb : hB1 (γ 0) = γ 2 := by
    unfold hB1
    unfold hpB
    rw [if_neg h7, ← e1, ← e2]
  show eqM (hB1 (γ 0)) (γ 2)
  rw [hb]
  exact eqM_rf
theorem wn91a0_0 {S : Nat → zSpc} (hS1 : ∀ x g o v gz, S 1 x g o v gz → sn1 x g o v gz) (hS5 : ∀ x g o v gz, S 5 x g o v gz → sn5 x g o v gz) (hS7 : ∀ x g o v gz, S 7 x g o v gz → sn7 x g o v gz) (hS8 : ∀ x g o v gz, S 8 x g o v gz → sn8 x g o v gz) (hS28 : ∀ x g o v gz, S 28 x g o v gz → sn28 x g o v gz) (hS32 : ∀ x g o v gz, S 32 x g o v gz → sn32 x g o v gz) (hS38 : ∀ x g o v gz, S 38 x g o v gz → sn38 x g o v gz) (hS44 : ∀ x g o v gz, S 44 x g o v gz → sn44 x g o v gz) {a : List Int} {g : rHp} : ∀ (ρ : Nat → Int) (γ : Nat → rHp), jr91 a g 0 (zAg (zNA a91_ 0) ρ) (γ 1) → zO 27 S a g q91a0_0 ρ γ → zGl (fun i vs g1 => jr91 a g i vs g1) (sr91 a g) q91a0_0 ρ γ := by
  intro ρ γ hJ h
  obtain ⟨ha, hg, hr, hf, hm, hc, hl⟩ := h
  have ha : a = [ρ 0, ρ 1, ρ 2, ρ 3, ρ 4, ρ 5, ρ 6, ρ 7, ρ 8, ρ 9, ρ 10, ρ 11, ρ 12, ρ 13, ρ 14, ρ 15, ρ 16, ρ 17, ρ 18, ρ 19, ρ 20, ρ 21, ρ 22, ρ 23, ρ 24, ρ 25, ρ 26] := ha
  subst ha
  subst hg
  have hJ : jr91 [ρ 0, ρ 1, ρ 2, ρ 3, ρ 4, ρ 5, ρ 6, ρ 7, ρ 8, ρ 9, ρ 10, ρ 11, ρ 12, ρ 13, ρ 14, ρ 15, ρ 16, ρ 17, ρ 18, ρ 19, ρ 20, ρ 21, ρ 22, ρ 23, ρ 24, ρ 25, ρ 26] (γ 0) 0 [ρ 0, ρ 1, ρ 2, ρ 3, ρ 4, ρ 5, ρ 6, ρ 7, ρ 8, ρ 9, ρ 10, ρ 11, ρ 12, ρ 13, ρ 14, ρ 15, ρ 16, ρ 17, ρ 18, ρ 19, ρ 20, ρ 21, ρ 22, ρ 23, ρ 24, ρ 25, ρ 26, ρ 27, ρ 28, ρ 29, ρ 30, ρ 31, ρ 32, ρ 33, ρ 34, ρ 35, ρ 36, ρ 37, ρ 38, ρ 39, ρ 40, ρ 41, ρ 42, ρ 43, ρ 44] (γ 1) := hJ
  obtain ⟨r0, r1, r2, r3, r4, r5, r6, r7, r8, r9, r10, r11, r12, r13, r14, r15, r16, r17, r18, r19, r20, r21, r22, r23, r24, r25, r26, r27, r28, r29, r30, r31, r32, r33, r34, r35, r36, r37, r38, r39, r40, r41, r42, r43, r44, -⟩ := hr
  have r0 : (0 : Int) ≤ ρ 0 ∧ ρ 0 ≤ 12288 := r0
  have r1 : (0 : Int) ≤ ρ 1 ∧ ρ 1 ≤ 12288 := r1
  have r2 : (0 : Int) ≤ ρ 2 ∧ ρ 2 ≤ 2000 := r2
  have r3 : (0 : Int) ≤ ρ 3 ∧ ρ 3 ≤ 20 := r3
  have r4 : (0 : Int) ≤ ρ 4 ∧ ρ 4 ≤ 50001 := r4
  have r5 : (0 : Int) ≤ ρ 5 ∧ ρ 5 ≤ 3 := r5
  have r6 : (0 : Int) ≤ ρ 6 ∧ ρ 6 ≤ 50001 := r6
  have r7 : (1 : Int) ≤ ρ 7 ∧ ρ 7 ≤ 1 := r7
  have r8 : (0 : Int) ≤ ρ 8 ∧ ρ 8 ≤ 3 := r8
  have r9 : (0 : Int) ≤ ρ 9 ∧ ρ 9 ≤ 20 := r9
  have r10 : (0 : Int) ≤ ρ 10 ∧ ρ 10 ≤ 60 := r10
  have r11 : (0 : Int) ≤ ρ 11 ∧ ρ 11 ≤ 2000 := r11
  have r12 : (0 : Int) ≤ ρ 12 ∧ ρ 12 ≤ 2000 := r12
  have r13 : (0 : Int) ≤ ρ 13 ∧ ρ 13 ≤ 2000 := r13
  have r14 : (0 : Int) ≤ ρ 14 ∧ ρ 14 ≤ 2000 := r14
  have r15 : (0 : Int) ≤ ρ 15 ∧ ρ 15 ≤ 2000 := r15
  have r16 : (0 : Int) ≤ ρ 16 ∧ ρ 16 ≤ 3 := r16
  have r17 : (0 : Int) ≤ ρ 17 ∧ ρ 17 ≤ 61 := r17
  have r18 : ((-2147483648) : Int) ≤ ρ 18 ∧ ρ 18 ≤ 2147483647 := r18
  have r19 : (0 : Int) ≤ ρ 19 ∧ ρ 19 ≤ 64 := r19
  have r20 : (0 : Int) ≤ ρ 20 ∧ ρ 20 ≤ 2000 := r20
  have r21 : ((-2147483648) : Int) ≤ ρ 21 ∧ ρ 21 ≤ 2147483647 := r21
  have r22 : (0 : Int) ≤ ρ 22 ∧ ρ 22 ≤ 2000 := r22
  have r23 : (0 : Int) ≤ ρ 23 ∧ ρ 23 ≤ 2000 := r23
  have r24 : (0 : Int) ≤ ρ 24 ∧ ρ 24 ≤ 2000 := r24
  have r25 : (0 : Int) ≤ ρ 25 ∧ ρ 25 ≤ 50001 := r25
  have r26 : ((-2147483648) : Int) ≤ ρ 26 ∧ ρ 26 ≤ 2147483647 := r26
  have r27 : (800 : Int) ≤ ρ 27 ∧ ρ 27 ≤ 800 := r27
  have r28 : (0 : Int) ≤ ρ 28 ∧ ρ 28 ≤ 12288 := r28
  have r29 : (0 : Int) ≤ ρ 29 ∧ ρ 29 ≤ 12288 := r29
  have r30 : (0 : Int) ≤ ρ 30 ∧ ρ 30 ≤ 0 := r30
  have r31 : (0 : Int) ≤ ρ 31 ∧ ρ 31 ≤ 50000 := r31
  have r32 : (0 : Int) ≤ ρ 32 ∧ ρ 32 ≤ 0 := r32
  have r33 : (0 : Int) ≤ ρ 33 ∧ ρ 33 ≤ 50001 := r33
  have r34 : (0 : Int) ≤ ρ 34 ∧ ρ 34 ≤ 0 := r34
  have r35 : (0 : Int) ≤ ρ 35 ∧ ρ 35 ≤ 20 := r35
  have r36 : (0 : Int) ≤ ρ 36 ∧ ρ 36 ≤ 2000 := r36
  have r37 : (0 : Int) ≤ ρ 37 ∧ ρ 37 ≤ 2000 := r37
  have r38 : (0 : Int) ≤ ρ 38 ∧ ρ 38 ≤ 3 := r38
  have r39 : (61 : Int) ≤ ρ 39 ∧ ρ 39 ≤ 61 := r39
  have r40 : ((-2147483648) : Int) ≤ ρ 40 ∧ ρ 40 ≤ 2147483647 := r40
  have r41 : (0 : Int) ≤ ρ 41 ∧ ρ 41 ≤ 43 := r41
  have r42 : (0 : Int) ≤ ρ 42 ∧ ρ 42 ≤ 50000 := r42
  have r43 : (0 : Int) ≤ ρ 43 ∧ ρ 43 ≤ 50001 := r43
  have r44 : ((-2147483648) : Int) ≤ ρ 44 ∧ ρ 44 ≤ 2147483647 := r44
  obtain ⟨f0, f1, f2, f3, f4, f5, f6, f7, f8, f9, f10, -⟩ := hf
  have f0 : (0 : Int) ≤ -ρ 29 + (ρ 2 + ρ 1) := f0
  have f1 : (0 : Int) ≤ -ρ 28 + (ρ 2 + ρ 0) := f1
  have f2 : (0 : Int) ≤ ρ 43 + -ρ 33 := f2
  have f3 : (0 : Int) ≤ ρ 42 + -ρ 31 := f3
  have f4 : (0 : Int) ≤ ρ 35 + -ρ 3 := f4
  have f5 : (0 : Int) ≤ -ρ 43 + ρ 33 := f5
  have f6 : (0 : Int) ≤ -ρ 42 + ρ 31 := f6
  have f7 : (0 : Int) ≤ ρ 29 + -ρ 1 := f7
  have f8 : (0 : Int) ≤ ρ 28 + -ρ 0 := f8
  have f9 : (0 : Int) ≤ -ρ 2 + -ρ 1 + 12288 := f9
  have f10 : (0 : Int) ≤ -ρ 2 + -ρ 0 + 12288 := f10
  obtain ⟨m0, m1, m2, m3, m4, m5, m6, m7, m8, m9, m10, m11, m12, m13, m14, m15, m16, m17, m18, m19, m20, m21, m22, m23, m24, m25, m26, m27, m28, m29, m30, m31, m32, m33, m34, m35, m36, m37, m38, m39, m40, m41, m42, m43, m44, m45, m46, m47, -⟩ := hm
  have m0 : γ 0 15 0 8 = ρ 0 := m0
  have m1 : γ 0 15 0 9 = ρ 1 := m1
  have m2 : γ 0 15 0 3 = ρ 2 := m2
  have m3 : γ 0 15 0 13 = ρ 3 := m3
  have m4 : γ 0 15 0 72 = ρ 4 := m4
  have m5 : γ 0 15 0 77 = ρ 5 := m5
  have m6 : γ 0 15 0 94 = ρ 6 := m6
  have m7 : γ 0 15 0 59 = ρ 7 := m7
  have m8 : γ 0 15 0 0 = ρ 8 := m8
  have m9 : γ 0 15 0 14 = ρ 9 := m9
  have m10 : γ 0 15 0 32 = ρ 10 := m10
  have m11 : γ 0 15 0 34 = ρ 11 := m11
  have m12 : γ 0 15 0 35 = ρ 12 := m12
  have m13 : γ 0 15 0 36 = ρ 13 := m13
  have m14 : γ 0 15 0 37 = ρ 14 := m14
  have m15 : γ 0 15 0 38 = ρ 15 := m15
  have m16 : γ 0 15 0 40 = ρ 16 := m16
  have m17 : γ 0 15 0 44 = ρ 17 := m17
  have m18 : γ 0 15 0 45 = ρ 18 := m18
  have m19 : γ 0 15 0 58 = ρ 19 := m19
  have m20 : γ 0 15 0 71 = ρ 20 := m20
  have m21 : γ 0 15 0 74 = ρ 21 := m21
  have m22 : γ 0 15 0 81 = ρ 22 := m22
  have m23 : γ 0 15 0 82 = ρ 23 := m23
  have m24 : γ 0 15 0 83 = ρ 24 := m24
  have m25 : γ 0 15 0 93 = ρ 25 := m25
  have m26 : γ 0 15 0 95 = ρ 26 := m26
  have m27 : γ 1 15 0 8 = ρ 28 := m27
  have m28 : γ 1 15 0 9 = ρ 29 := m28
  have m29 : γ 1 15 0 3 = ρ 30 := m29
  have m30 : γ 1 15 0 72 = ρ 31 := m30
  have m31 : γ 1 15 0 77 = ρ 32 := m31
  have m32 : γ 1 15 0 94 = ρ 33 := m32
  have m33 : γ 1 15 0 0 = ρ 34 := m33
  have m34 : γ 1 15 0 14 = ρ 35 := m34
  have m35 : γ 1 15 0 34 = ρ 2 := m35
  have m36 : γ 1 15 0 35 = ρ 2 := m36
  have m37 : γ 1 15 0 36 = ρ 13 := m37
  have m38 : γ 1 15 0 37 = ρ 36 := m38
  have m39 : γ 1 15 0 38 = ρ 37 := m39
  have m40 : γ 1 15 0 40 = ρ 38 := m40
  have m41 : γ 1 15 0 44 = ρ 39 := m41
  have m42 : γ 1 15 0 45 = ρ 40 := m42
  have m43 : γ 1 15 0 58 = ρ 41 := m43
  have m44 : γ 1 15 0 74 = ρ 42 := m44
  have m45 : γ 1 15 0 81 = ρ 20 := m45
  have m46 : γ 1 15 0 93 = ρ 43 := m46
  have m47 : γ 1 15 0 95 = ρ 44 := m47
  obtain ⟨-, c1⟩ := hc
  have c1 : ∀ (G : Nat) (k j : Int), ¬ rMdP m62_ G j → γ 1 G k j = γ 0 G k j := c1
  show sr91 [ρ 0, ρ 1, ρ 2, ρ 3, ρ 4, ρ 5, ρ 6, ρ 7, ρ 8, ρ 9, ρ 10, ρ 11, ρ 12, ρ 13, ρ 14, ρ 15, ρ 16, ρ 17, ρ 18, ρ 19, ρ 20, ρ 21, ρ 22, ρ 23, ρ 24, ρ 25, ρ 26] (γ 0) 0 (ρ 43) (γ 1)
  exact eqM_tr hJ eqM_rf
theorem wn91a0_1 {S : Nat → zSpc} (hS1 : ∀ x g o v gz, S 1 x g o v gz → sn1 x g o v gz) (hS5 : ∀ x g o v gz, S 5 x g o v gz → sn5 x g o v gz) (hS7 : ∀ x g o v gz, S 7 x g o v gz → sn7 x g o v gz) (hS8 : ∀ x g o v gz, S 8 x g o v gz → sn8 x g o v gz) (hS28 : ∀ x g o v gz, S 28 x g o v gz → sn28 x g o v gz) (hS32 : ∀ x g o v gz, S 32 x g o v gz → sn32 x g o v gz) (hS38 : ∀ x g o v gz, S 38 x g o v gz → sn38 x g o v gz) (hS44 : ∀ x g o v gz, S 44 x g o v gz → sn44 x g o v gz) {a : List Int} {g : rHp} : ∀ (ρ : Nat → Int) (γ : Nat → rHp), jr91 a g 0 (zAg (zNA a91_ 0) ρ) (γ 1) → zO 27 S a g q91a0_1 ρ γ → zGl (fun i vs g1 => jr91 a g i vs g1) (sr91 a g) q91a0_1 ρ γ := by
  intro ρ γ hJ h
  obtain ⟨ha, hg, hr, hf, hm, hc, hl⟩ := h
  have ha : a = [ρ 0, ρ 1, ρ 2, ρ 3, ρ 4, ρ 5, ρ 6, ρ 7, ρ 8, ρ 9, ρ 10, ρ 11, ρ 12, ρ 13, ρ 14, ρ 15, ρ 16, ρ 17, ρ 18, ρ 19, ρ 20, ρ 21, ρ 22, ρ 23, ρ 24, ρ 25, ρ 26] := ha
  subst ha
  subst hg
  have hJ : jr91 [ρ 0, ρ 1, ρ 2, ρ 3, ρ 4, ρ 5, ρ 6, ρ 7, ρ 8, ρ 9, ρ 10, ρ 11, ρ 12, ρ 13, ρ 14, ρ 15, ρ 16, ρ 17, ρ 18, ρ 19, ρ 20, ρ 21, ρ 22, ρ 23, ρ 24, ρ 25, ρ 26] (γ 0) 0 [ρ 0, ρ 1, ρ 2, ρ 3, ρ 4, ρ 5, ρ 6, ρ 7, ρ 8, ρ 9, ρ 10, ρ 11, ρ 12, ρ 13, ρ 14, ρ 15, ρ 16, ρ 17, ρ 18, ρ 19, ρ 20, ρ 21, ρ 22, ρ 23, ρ 24, ρ 25, ρ 26, ρ 27, ρ 28, ρ 29, ρ 30, ρ 31, ρ 32, ρ 33, ρ 34, ρ 35, ρ 36, ρ 37, ρ 38, ρ 39, ρ 40, ρ 41, ρ 42, ρ 43, ρ 44] (γ 1) := hJ
  obtain ⟨r0, r1, r2, r3, r4, r5, r6, r7, r8, r9, r10, r11, r12, r13, r14, r15, r16, r17, r18, r19, r20, r21, r22, r23, r24, r25, r26, r27, r28, r29, r30, r31, r32, r33, r34, r35, r36, r37, r38, r39, r40, r41, r42, r43, r44, r45, -⟩ := hr
  have r0 : (0 : Int) ≤ ρ 0 ∧ ρ 0 ≤ 12288 := r0
  have r1 : (0 : Int) ≤ ρ 1 ∧ ρ 1 ≤ 12288 := r1
  have r2 : (0 : Int) ≤ ρ 2 ∧ ρ 2 ≤ 2000 := r2
  have r3 : (0 : Int) ≤ ρ 3 ∧ ρ 3 ≤ 20 := r3
  have r4 : (0 : Int) ≤ ρ 4 ∧ ρ 4 ≤ 50001 := r4
  have r5 : (0 : Int) ≤ ρ 5 ∧ ρ 5 ≤ 3 := r5
  have r6 : (0 : Int) ≤ ρ 6 ∧ ρ 6 ≤ 50001 := r6
  have r7 : (1 : Int) ≤ ρ 7 ∧ ρ 7 ≤ 1 := r7
  have r8 : (0 : Int) ≤ ρ 8 ∧ ρ 8 ≤ 3 := r8
  have r9 : (0 : Int) ≤ ρ 9 ∧ ρ 9 ≤ 20 := r9
  have r10 : (0 : Int) ≤ ρ 10 ∧ ρ 10 ≤ 60 := r10
  have r11 : (0 : Int) ≤ ρ 11 ∧ ρ 11 ≤ 2000 := r11
  have r12 : (0 : Int) ≤ ρ 12 ∧ ρ 12 ≤ 2000 := r12
  have r13 : (0 : Int) ≤ ρ 13 ∧ ρ 13 ≤ 2000 := r13
  have r14 : (0 : Int) ≤ ρ 14 ∧ ρ 14 ≤ 2000 := r14
  have r15 : (0 : Int) ≤ ρ 15 ∧ ρ 15 ≤ 2000 := r15
  have r16 : (0 : Int) ≤ ρ 16 ∧ ρ 16 ≤ 3 := r16
  have r17 : (0 : Int) ≤ ρ 17 ∧ ρ 17 ≤ 61 := r17
  have r18 : ((-2147483648) : Int) ≤ ρ 18 ∧ ρ 18 ≤ 2147483647 := r18
  have r19 : (0 : Int) ≤ ρ 19 ∧ ρ 19 ≤ 64 := r19
  have r20 : (0 : Int) ≤ ρ 20 ∧ ρ 20 ≤ 2000 := r20
  have r21 : ((-2147483648) : Int) ≤ ρ 21 ∧ ρ 21 ≤ 2147483647 := r21
  have r22 : (0 : Int) ≤ ρ 22 ∧ ρ 22 ≤ 2000 := r22
  have r23 : (0 : Int) ≤ ρ 23 ∧ ρ 23 ≤ 2000 := r23
  have r24 : (0 : Int) ≤ ρ 24 ∧ ρ 24 ≤ 2000 := r24
  have r25 : (0 : Int) ≤ ρ 25 ∧ ρ 25 ≤ 50001 := r25
  have r26 : ((-2147483648) : Int) ≤ ρ 26 ∧ ρ 26 ≤ 2147483647 := r26
  have r27 : (0 : Int) ≤ ρ 27 ∧ ρ 27 ≤ 799 := r27
  have r28 : (0 : Int) ≤ ρ 28 ∧ ρ 28 ≤ 12288 := r28
  have r29 : (0 : Int) ≤ ρ 29 ∧ ρ 29 ≤ 12288 := r29
  have r30 : (0 : Int) ≤ ρ 30 ∧ ρ 30 ≤ 0 := r30
  have r31 : (0 : Int) ≤ ρ 31 ∧ ρ 31 ≤ 50000 := r31
  have r32 : (0 : Int) ≤ ρ 32 ∧ ρ 32 ≤ 0 := r32
  have r33 : (0 : Int) ≤ ρ 33 ∧ ρ 33 ≤ 50001 := r33
  have r34 : (0 : Int) ≤ ρ 34 ∧ ρ 34 ≤ 0 := r34
  have r35 : (0 : Int) ≤ ρ 35 ∧ ρ 35 ≤ 20 := r35
  have r36 : (0 : Int) ≤ ρ 36 ∧ ρ 36 ≤ 2000 := r36
  have r37 : (0 : Int) ≤ ρ 37 ∧ ρ 37 ≤ 2000 := r37
  have r38 : (0 : Int) ≤ ρ 38 ∧ ρ 38 ≤ 3 := r38
  have r39 : (61 : Int) ≤ ρ 39 ∧ ρ 39 ≤ 61 := r39
  have r40 : ((-2147483648) : Int) ≤ ρ 40 ∧ ρ 40 ≤ 2147483647 := r40
  have r41 : (0 : Int) ≤ ρ 41 ∧ ρ 41 ≤ 43 := r41
  have r42 : (0 : Int) ≤ ρ 42 ∧ ρ 42 ≤ 50000 := r42
  have r43 : (0 : Int) ≤ ρ 43 ∧ ρ 43 ≤ 50001 := r43
  have r44 : ((-2147483648) : Int) ≤ ρ 44 ∧ ρ 44 ≤ 2147483647 := r44
  have r45 : ((-2147483648) : Int) ≤ ρ 45 ∧ ρ 45 ≤ 1099511640064 := r45
  obtain ⟨f0, f1, f2, f3, f4, f5, f6, f7, f8, f9, f10, -⟩ := hf
  have f0 : (0 : Int) ≤ -ρ 29 + (ρ 2 + ρ 1) := f0
  have f1 : (0 : Int) ≤ -ρ 28 + (ρ 2 + ρ 0) := f1
  have f2 : (0 : Int) ≤ ρ 43 + -ρ 33 := f2
  have f3 : (0 : Int) ≤ ρ 42 + -ρ 31 := f3
  have f4 : (0 : Int) ≤ ρ 35 + -ρ 3 := f4
  have f5 : (0 : Int) ≤ -ρ 43 + ρ 33 := f5
  have f6 : (0 : Int) ≤ -ρ 42 + ρ 31 := f6
  have f7 : (0 : Int) ≤ ρ 29 + -ρ 1 := f7
  have f8 : (0 : Int) ≤ ρ 28 + -ρ 0 := f8
  have f9 : (0 : Int) ≤ -ρ 2 + -ρ 1 + 12288 := f9
  have f10 : (0 : Int) ≤ -ρ 2 + -ρ 0 + 12288 := f10
  obtain ⟨m0, m1, m2, m3, m4, m5, m6, m7, m8, m9, m10, m11, m12, m13, m14, m15, m16, m17, m18, m19, m20, m21, m22, m23, m24, m25, m26, m27, m28, m29, m30, m31, m32, m33, m34, m35, m36, m37, m38, m39, m40, m41, m42, m43, m44, m45, m46, m47, m48, -⟩ := hm
  have m0 : γ 0 15 0 8 = ρ 0 := m0
  have m1 : γ 0 15 0 9 = ρ 1 := m1
  have m2 : γ 0 15 0 3 = ρ 2 := m2
  have m3 : γ 0 15 0 13 = ρ 3 := m3
  have m4 : γ 0 15 0 72 = ρ 4 := m4
  have m5 : γ 0 15 0 77 = ρ 5 := m5
  have m6 : γ 0 15 0 94 = ρ 6 := m6
  have m7 : γ 0 15 0 59 = ρ 7 := m7
  have m8 : γ 0 15 0 0 = ρ 8 := m8
  have m9 : γ 0 15 0 14 = ρ 9 := m9
  have m10 : γ 0 15 0 32 = ρ 10 := m10
  have m11 : γ 0 15 0 34 = ρ 11 := m11
  have m12 : γ 0 15 0 35 = ρ 12 := m12
  have m13 : γ 0 15 0 36 = ρ 13 := m13
  have m14 : γ 0 15 0 37 = ρ 14 := m14
  have m15 : γ 0 15 0 38 = ρ 15 := m15
  have m16 : γ 0 15 0 40 = ρ 16 := m16
  have m17 : γ 0 15 0 44 = ρ 17 := m17
  have m18 : γ 0 15 0 45 = ρ 18 := m18
  have m19 : γ 0 15 0 58 = ρ 19 := m19
  have m20 : γ 0 15 0 71 = ρ 20 := m20
  have m21 : γ 0 15 0 74 = ρ 21 := m21
  have m22 : γ 0 15 0 81 = ρ 22 := m22
  have m23 : γ 0 15 0 82 = ρ 23 := m23
  have m24 : γ 0 15 0 83 = ρ 24 := m24
  have m25 : γ 0 15 0 93 = ρ 25 := m25
  have m26 : γ 0 15 0 95 = ρ 26 := m26
  have m27 : γ 1 15 0 8 = ρ 28 := m27
  have m28 : γ 1 15 0 9 = ρ 29 := m28
  have m29 : γ 1 15 0 3 = ρ 30 := m29
  have m30 : γ 1 15 0 72 = ρ 31 := m30
  have m31 : γ 1 15 0 77 = ρ 32 := m31
  have m32 : γ 1 15 0 94 = ρ 33 := m32
  have m33 : γ 1 15 0 0 = ρ 34 := m33
  have m34 : γ 1 15 0 14 = ρ 35 := m34
  have m35 : γ 1 15 0 34 = ρ 2 := m35
  have m36 : γ 1 15 0 35 = ρ 2 := m36
  have m37 : γ 1 15 0 36 = ρ 13 := m37
  have m38 : γ 1 15 0 37 = ρ 36 := m38
  have m39 : γ 1 15 0 38 = ρ 37 := m39
  have m40 : γ 1 15 0 40 = ρ 38 := m40
  have m41 : γ 1 15 0 44 = ρ 39 := m41
  have m42 : γ 1 15 0 45 = ρ 40 := m42
  have m43 : γ 1 15 0 58 = ρ 41 := m43
  have m44 : γ 1 15 0 74 = ρ 42 := m44
  have m45 : γ 1 15 0 81 = ρ 20 := m45
  have m46 : γ 1 15 0 93 = ρ 43 := m46
  have m47 : γ 1 15 0 95 = ρ 44 := m47
  have m48 : γ 1 111 0 (ρ 27) = ρ 45 := m48
  obtain ⟨⟨-, c1⟩, c2⟩ := hc
  have c1 : ∀ (G : Nat) (k j : Int), ¬ rMdP m62_ G j → γ 1 G k j = γ 0 G k j := c1
  have c2 : γ 2 = rUp (γ 1) 110 0 (ρ 27) (ρ 45) := c2
  show jr91 [ρ 0, ρ 1, ρ 2, ρ 3, ρ 4, ρ 5, ρ 6, ρ 7, ρ 8, ρ 9, ρ 10, ρ 11, ρ 12, ρ 13, ρ 14, ρ 15, ρ 16, ρ 17, ρ 18, ρ 19, ρ 20, ρ 21, ρ 22, ρ 23, ρ 24, ρ 25, ρ 26] (γ 0) 0 [ρ 0, ρ 1, ρ 2, ρ 3, ρ 4, ρ 5, ρ 6, ρ 7, ρ 8, ρ 9, ρ 10, ρ 11, ρ 12, ρ 13, ρ 14, ρ 15, ρ 16, ρ 17, ρ 18, ρ 19, ρ 20, ρ 21, ρ 22, ρ 23, ρ 24, ρ 25, ρ 26, ρ 27 + 1, ρ 28, ρ 29, ρ 30, ρ 31, ρ 32, ρ 33, ρ 34, ρ 35, ρ 36, ρ 37, ρ 38, ρ 39, ρ 40, ρ 41, ρ 42, ρ 43, ρ 44] (γ 2)
  exact eqM_tr hJ (eqM_up c2 (by decide))
theorem un91 {S : Nat → zSpc} (hS1 : ∀ x g o v gz, S 1 x g o v gz → sn1 x g o v gz) (hS5 : ∀ x g o v gz, S 5 x g o v gz → sn5 x g o v gz) (hS7 : ∀ x g o v gz, S 7 x g o v gz → sn7 x g o v gz) (hS8 : ∀ x g o v gz, S 8 x g o v gz → sn8 x g o v gz) (hS28 : ∀ x g o v gz, S 28 x g o v gz → sn28 x g o v gz) (hS32 : ∀ x g o v gz, S 32 x g o v gz → sn32 x g o v gz) (hS38 : ∀ x g o v gz, S 38 x g o v gz → sn38 x g o v gz) (hS44 : ∀ x g o v gz, S 44 x g o v gz → sn44 x g o v gz) : ∀ x g o v gz, zSem uW uT w91_.2.2.2.1 w91_.2.2.1.1.length S q91 (fun i => q91a.getD i []) (zNA a91_) x g o v gz → sr91 x g o v gz := by
  intro a g o v gz h
  exact zSem_all (l0 := q91) (las := q91a) (S := S) (J := (fun i vs g1 => jr91 a g i vs g1)) (P := sr91 a g) (fun _ => (show zAll _ [q91_0, q91_1, q91_2, q91_3, q91_4, q91_5] from (zAll_c (wn91_0 hS1 hS5 hS7 hS8 hS28 hS32 hS38 hS44) (zAll_c (wn91_1 hS1 hS5 hS7 hS8 hS28 hS32 hS38 hS44) (zAll_c (wn91_2 hS1 hS5 hS7 hS8 hS28 hS32 hS38 hS44) (zAll_c (wn91_3 hS1 hS5 hS7 hS8 hS28 hS32 hS38 hS44) (zAll_c (wn91_4 hS1 hS5 hS7 hS8 hS28 hS32 hS38 hS44) (zAll_c (wn91_5 hS1 hS5 hS7 hS8 hS28 hS32 hS38 hS44) zAll_n)))))))) (fun _ => (show zAllI _ 0 [q91a0] from ⟨(show zAll _ [q91a0_0, q91a0_1] from (zAll_c (wn91a0_0 hS1 hS5 hS7 hS8 hS28 hS32 hS38 hS44) (zAll_c (wn91a0_1 hS1 hS5 hS7 hS8 hS28 hS32 hS38 hS44) zAll_n))), trivial⟩)) h
