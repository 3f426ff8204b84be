/-! ===== the cases as functions ===== -/
noncomputable def zLet {α β : Type} (x : α) (f : α → β) : β := f x
theorem zLet_eq {α β : Type} {x y : α} {f : α → β} (h : x = y) : zLet x f = f y := by
  subst h
  rfl
abbrev zR : Type := Nat × Int × rHp
abbrev zSt : Type := (Nat × List Int × rHp) ⊕ zR
/-- the number of a value that an operation takes: ints, or longs -/
noncomputable def zMk (l : Bool) (x : Int) : Value := if l then .long (Int64.ofInt x) else .int (Int32.ofInt x)
noncomputable def zLo : Instr → Bool
  | .ladd | .lsub | .lmul | .ldiv | .lrem | .land | .lor | .lxor | .lshl | .lshr | .lushr | .lneg | .l2i | .lcmp => true
  | _ => false
noncomputable def zLo2 : Instr → Bool
  | .ladd | .lsub | .lmul | .ldiv | .lrem | .land | .lor | .lxor | .lcmp => true
  | _ => false
noncomputable def zF1 (i : Instr) (x : Int) : Int := rNum ((xop1 i (zMk (zLo i) x)).getD .null)
noncomputable def zF2 (i : Instr) (x y : Int) : Int := rNum ((xop2 i (zMk (zLo i) x) (zMk (zLo2 i) y)).getD .null)
theorem zMk_i {z : Int32} {x : Int} (h : rNum (.int z) = x) : zMk false x = .int z := by
  have h : z.toInt = x := h
  subst h
  simp [zMk]
theorem zMk_l {z : Int64} {x : Int} (h : rNum (.long z) = x) : zMk true x = .long z := by
  have h : z.toInt = x := h
  subst h
  simp [zMk]
theorem zF1_ok {i : Instr} {g g_q : rHp} {x z : Int} (h : zOpP i g g_q [x] z) : zF1 i x = z := by
  obtain ⟨a, v, h1, h2, h3⟩ := h
  have e : zMk (zLo i) x = a := by
    unfold xop1 at h1
    split at h1 <;> first | (cases h1; done) | exact zMk_i h2 | exact zMk_l h2
  unfold zF1
  rw [e, h1]
  exact h3
theorem zF2_ok {i : Instr} {g g_q : rHp} {x y z : Int} (h : zOpP i g g_q [x, y] z) : zF2 i x y = z := by
  obtain ⟨a, b, v, h1, h2, h3, h4⟩ := h
  have e : zMk (zLo i) x = a ∧ zMk (zLo2 i) y = b := by
    unfold xop2 at h1
    split at h1 <;> first | (cases h1; done) | exact ⟨zMk_i h2, zMk_i h3⟩ | exact ⟨zMk_l h2, zMk_l h3⟩ | exact ⟨zMk_l h2, zMk_i h3⟩
  unfold zF2
  rw [e.1, e.2, h1]
  exact h4
/-! loops -/
noncomputable def zIt (E : (Nat × List Int × rHp) → zSt) : Nat → (Nat × List Int × rHp) → Option zR
  | 0, _ => none
  | f + 1, s => match E s with
    | .inl s_q => zIt E f s_q
    | .inr r => some r
theorem zIt_one {E : (Nat × List Int × rHp) → zSt} : ∀ {f f_q : Nat} {s : Nat × List Int × rHp} {r r_q : zR}, zIt E f s = some r → zIt E f_q s = some r_q → r = r_q
  | 0, _, _, _, _, h, _ => by cases h
  | _ + 1, 0, _, _, _, _, h => by cases h
  | f + 1, f_q + 1, s, r, r_q, h, h_q => by
    unfold zIt at h h_q
    split at h
    · rename_i s_q e
      rw [e] at h_q
      exact zIt_one h h_q
    · rename_i q e
      rw [e] at h_q
      cases h
      cases h_q
      rfl
noncomputable def zLoop (E : (Nat × List Int × rHp) → zSt) (s : Nat × List Int × rHp) : zR := @dite zR (∃ r, ∃ f, zIt E f s = some r) (Classical.propDecidable _) (fun h => h.choose) (fun _ => (0, 0, fun _ _ _ => 0))
theorem zLoop_at {E : (Nat × List Int × rHp) → zSt} {s : Nat × List Int × rHp} {f : Nat} {r : zR} (h : zIt E f s = some r) : zLoop E s = r := by
  have hx : ∃ r, ∃ f, zIt E f s = some r := ⟨r, f, h⟩
  unfold zLoop
  rw [dif_pos hx]
  obtain ⟨f_q, h_q⟩ := hx.choose_spec
  exact zIt_one h_q h
noncomputable def zGoo (E : (Nat × List Int × rHp) → zSt) : zSt → zR
  | .inl s => zLoop E s
  | .inr r => r
theorem zLoop_eq (E : (Nat × List Int × rHp) → zSt) (s : Nat × List Int × rHp) : zLoop E s = zGoo E (E s) := by
  by_cases h : ∃ r, ∃ f, zIt E f s = some r
  · obtain ⟨r, f, h⟩ := h
    rw [zLoop_at h]
    cases f with
    | zero => cases h
    | succ f =>
      unfold zIt at h
      split at h
      · rename_i s_q e
        rw [e]
        exact (zLoop_at h).symm
      · rename_i q e
        cases h
        rw [e]
        rfl
  · have h0 : zLoop E s = (0, 0, fun _ _ _ => 0) := by
      unfold zLoop
      rw [dif_neg h]
    cases e : E s with
    | inl s_q =>
      have h2 : ¬ ∃ r, ∃ f, zIt E f s_q = some r := by
        rintro ⟨r, f, h2⟩
        exact h ⟨r, f + 1, by unfold zIt; rw [e]; exact h2⟩
      rw [h0]
      show _ = zLoop E s_q
      unfold zLoop
      rw [dif_neg h2]
    | inr r => exact absurd ⟨r, 1, by unfold zIt; rw [e]⟩ h
theorem zAll_c {α : Type} {P : α → Prop} {x : α} {r : List α} (h : P x) (t : zAll P r) : zAll P (x :: r) := ⟨h, t⟩
theorem zAll_n {α : Type} {P : α → Prop} : zAll P [] := trivial
theorem zGoo_end {E : (Nat × List Int × rHp) → zSt} {d : zSt} {o : Nat} {v : Int} {g_q : rHp} (h : d = .inr (o, v, g_q)) : (o, v, g_q) = zGoo E d := by
  rw [h]
  rfl
theorem zGoo_to {E : (Nat × List Int × rHp) → zSt} {d : zSt} {s : Nat × List Int × rHp} (h : d = .inl s) : zGoo E d = zLoop E s := by
  rw [h]
  rfl
theorem zGoo_aend {E : (Nat × List Int × rHp) → zSt} {d : zSt} {s : Nat × List Int × rHp} {o : Nat} {v : Int} {g_q : rHp} (hJ : zGoo E d = zLoop E s) (h : E s = .inr (o, v, g_q)) : (o, v, g_q) = zGoo E d := by
  rw [hJ, zLoop_eq, h]
  rfl
theorem zGoo_ato {E : (Nat × List Int × rHp) → zSt} {d : zSt} {s s_q : Nat × List Int × rHp} (hJ : zGoo E d = zLoop E s) (h : E s = .inl s_q) : zGoo E d = zLoop E s_q := by
  rw [hJ, zLoop_eq, h]
  rfl

noncomputable def fn0 (x : List Int) (g0 : rHp) : zR :=
  zLet (g0 15 0 0) fun n0 =>
  (0, n0, g0)
noncomputable def sn0 : zSpc := fun a g o v g_q => (o, v, g_q) = fn0 [] g
noncomputable def fn1 (x : List Int) (g0 : rHp) : zR :=
  zLet (x.getD 0 0) fun n0 =>
  zLet (rUp g0 15 0 0 n0) fun g1 =>
  if n0 = 0 then
    (0, 0, g1)
  else
    (0, 1, g1)
noncomputable def sn1 : zSpc := fun a g o v g_q => (o, v, g_q) = fn1 [a.getD 0 0] g
noncomputable def fn2 (x : List Int) (g0 : rHp) : zR :=
  zLet (x.getD 0 0) fun n0 =>
  zLet (g0 15 0 3) fun n1 =>
  zLet (zF2 .ishr n0 24) fun n2 =>
  zLet (zF1 .i2b n2) fun n3 =>
  zLet (rUp g0 59 0 n1 n3) fun g1 =>
  zLet (rUp g1 15 0 3 (n1 + 1)) fun g2 =>
  zLet (zF2 .ishr n0 16) fun n4 =>
  zLet (zF1 .i2b n4) fun n5 =>
  zLet (rUp g2 59 0 (n1 + 1) n5) fun g3 =>
  zLet (rUp g3 15 0 3 (n1 + 2)) fun g4 =>
  zLet (zF2 .ishr n0 8) fun n6 =>
  zLet (zF1 .i2b n6) fun n7 =>
  zLet (rUp g4 59 0 (n1 + 2) n7) fun g5 =>
  zLet (rUp g5 15 0 3 (n1 + 3)) fun g6 =>
  zLet (zF2 .ishr n0 0) fun n8 =>
  zLet (zF1 .i2b n8) fun n9 =>
  zLet (rUp g6 59 0 (n1 + 3) n9) fun g7 =>
  zLet (rUp g7 15 0 3 (n1 + 4)) fun g8 =>
  (0, 0, g8)
noncomputable def sn2 : zSpc := fun a g o v g_q => (o, v, g_q) = fn2 [a.getD 0 0] g
noncomputable def fn3 (x : List Int) (g0 : rHp) : zR :=
  zLet (x.getD 0 0) fun n0 =>
  zLet (x.getD 1 0) fun n1 =>
  zLet (x.getD 2 0) fun n2 =>
  zLet (x.getD 3 0) fun n3 =>
  zLet (x.getD 4 0) fun n4 =>
  zLet (g0 15 0 3) fun n5 =>
  if n5 + 20 ≤ 2000 then
    zLet (fn1 [0] g0) fun p0 =>
    zLet p0.2.2 fun g1 =>
    zLet (fn2 [n0] g1) fun p1 =>
    zLet p1.2.2 fun g2 =>
    zLet (fn2 [n1] g2) fun p2 =>
    zLet p2.2.2 fun g3 =>
    zLet (fn2 [n2] g3) fun p3 =>
    zLet p3.2.2 fun g4 =>
    zLet (fn2 [n3] g4) fun p4 =>
    zLet p4.2.2 fun g5 =>
    zLet (fn2 [n4] g5) fun p5 =>
    zLet p5.2.2 fun g6 =>
    (0, n5 + 20, g6)
  else
    zLet (fn1 [1] g0) fun p0 =>
    zLet p0.2.2 fun g1 =>
    (0, 0, g1)
noncomputable def sn3 : zSpc := fun a g o v g_q => (o, v, g_q) = fn3 [a.getD 0 0, a.getD 1 0, a.getD 2 0, a.getD 3 0, a.getD 4 0] g
noncomputable def fn4 (x : List Int) (g0 : rHp) : zR :=
  zLet (x.getD 0 0) fun n0 =>
  zLet (g0 15 0 3) fun n1 =>
  if n0 < 0 then
    zLet (fn1 [1] g0) fun p0 =>
    zLet p0.2.2 fun g1 =>
    (0, 0, g1)
  else
    if n0 ≤ n1 then
      zLet (fn1 [0] g0) fun p0 =>
      zLet p0.2.2 fun g1 =>
      zLet (rUp g1 15 0 3 n0) fun g2 =>
      (0, n0, g2)
    else
      zLet (fn1 [1] g0) fun p0 =>
      zLet p0.2.2 fun g1 =>
      (0, 0, g1)
noncomputable def sn4 : zSpc := fun a g o v g_q => (o, v, g_q) = fn4 [a.getD 0 0] g
noncomputable def fn5 (x : List Int) (g0 : rHp) : zR :=
  zLet (g0 15 0 3) fun n0 =>
  zLet (rUp g0 15 0 34 n0) fun g1 =>
  zLet (rUp g1 15 0 3 0) fun g2 =>
  zLet (rUp g2 15 0 35 0) fun g3 =>
  (0, 0, g3)
noncomputable def sn5 : zSpc := fun a g o v g_q => (o, v, g_q) = fn5 [] g
noncomputable def fn6 (x : List Int) (g0 : rHp) : zR :=
  zLet (x.getD 0 0) fun n0 =>
  zLet (g0 15 0 34) fun n1 =>
  if n0 ≥ n1 then
    (0, (-1), g0)
  else
    zLet (g0 59 0 n0) fun n2 =>
    (0, n2, g0)
noncomputable def sn6 : zSpc := fun a g o v g_q => (o, v, g_q) = fn6 [a.getD 0 0] g
noncomputable def dn7 (x : List Int) (g0 : rHp) : zSt :=
  zLet (g0 15 0 35) fun n0 =>
  zLet (g0 15 0 34) fun n1 =>
  zLet (fn6 [n0] g0) fun p0 =>
  zLet p0.2.2 fun g1 =>
  if 0 ≤ n1 + -n0 + (-1) then
    zLet (p0.2.1) fun n2 =>
    if n2 = 32 then
      zLet (rUp g1 15 0 35 (n0 + 1)) fun g2 =>
      .inl (0, [], g2)
    else
      zLet (fn6 [n0] g1) fun p1 =>
      zLet p1.2.2 fun g2 =>
      zLet (p1.2.1) fun n3 =>
      if n3 ≠ 10 then
        .inr (0, 0, g2)
      else
        zLet (rUp g2 15 0 35 (n0 + 1)) fun g3 =>
        .inl (0, [], g3)
  else
    zLet (fn6 [n0] g1) fun p1 =>
    zLet p1.2.2 fun g2 =>
    .inr (0, 0, g2)
noncomputable def en7 (g0 : rHp) (s : Nat × List Int × rHp) : zSt :=
  if s.1 = 0 then
    zLet s.2.2 fun g1 =>
    zLet (g0 15 0 34) fun n1 =>
    zLet (g1 15 0 35) fun n2 =>
    zLet (fn6 [n2] g1) fun p1 =>
    zLet p1.2.2 fun g2 =>
    if 0 ≤ -n2 + n1 + (-1) then
      zLet (p1.2.1) fun n3 =>
      if n3 = 32 then
        zLet (rUp g2 15 0 35 (n2 + 1)) fun g3 =>
        .inl (0, [], g3)
      else
        zLet (fn6 [n2] g2) fun p2 =>
        zLet p2.2.2 fun g3 =>
        zLet (p2.2.1) fun n4 =>
        if n4 ≠ 10 then
          .inr (0, 0, g3)
        else
          zLet (rUp g3 15 0 35 (n2 + 1)) fun g4 =>
          .inl (0, [], g4)
    else
      zLet (fn6 [n2] g2) fun p2 =>
      zLet p2.2.2 fun g3 =>
      .inr (0, 0, g3)
  else .inr (0, 0, g0)
noncomputable def fn7 (x : List Int) (g : rHp) : zR := zGoo (en7 g) (dn7 x g)
noncomputable def sn7 : zSpc := fun a g o v g_q => (o, v, g_q) = fn7 [] g
noncomputable def pl7 : Nat → List Int → List Int
  | 0, vs => []
  | _, _ => []
noncomputable def jn7 : List Int → rHp → Nat → List Int → rHp → Prop := fun a g i vs g1 => fn7 [] g = zLoop (en7 g) (i, pl7 i vs, g1)
noncomputable def fn8 (x : List Int) (g0 : rHp) : zR :=
  zLet (x.getD 0 0) fun n0 =>
  zLet (g0 15 0 34) fun n1 =>
  if n0 ≥ n1 then
    zLet (rUp g0 15 0 36 n1) fun g1 =>
    (0, 0, g1)
  else
    zLet (rUp g0 15 0 36 n0) fun g1 =>
    (0, 0, g1)
noncomputable def sn8 : zSpc := fun a g o v g_q => (o, v, g_q) = fn8 [a.getD 0 0] g
noncomputable def fn9 (x : List Int) (g0 : rHp) : zR :=
  zLet (x.getD 0 0) fun n0 =>
  if n0 < 97 then
    (0, 0, g0)
  else
    if n0 > 122 then
      (0, 0, g0)
    else
      (0, 1, g0)
noncomputable def sn9 : zSpc := fun a g o v g_q => (o, v, g_q) = fn9 [a.getD 0 0] g
noncomputable def fn10 (x : List Int) (g0 : rHp) : zR :=
  zLet (x.getD 0 0) fun n0 =>
  if n0 < 65 then
    (0, 0, g0)
  else
    if n0 > 90 then
      (0, 0, g0)
    else
      (0, 1, g0)
noncomputable def sn10 : zSpc := fun a g o v g_q => (o, v, g_q) = fn10 [a.getD 0 0] g
noncomputable def fn11 (x : List Int) (g0 : rHp) : zR :=
  zLet (x.getD 0 0) fun n0 =>
  if n0 < 48 then
    (0, 0, g0)
  else
    if n0 > 57 then
      (0, 0, g0)
    else
      (0, 1, g0)
noncomputable def sn11 : zSpc := fun a g o v g_q => (o, v, g_q) = fn11 [a.getD 0 0] g
noncomputable def dn12 (x : List Int) (g0 : rHp) : zSt :=
  zLet (g0 15 0 35) fun n0 =>
  zLet (rUp g0 15 0 37 n0) fun g1 =>
  .inl (0, [n0 + 1], g1)
noncomputable def en12 (g0 : rHp) (s : Nat × List Int × rHp) : zSt :=
  if s.1 = 0 then
    zLet s.2.2 fun g1 =>
    zLet (s.2.1.getD 0 0) fun n5 =>
    zLet (g0 15 0 35) fun n0 =>
    zLet (g0 15 0 34) fun n1 =>
    zLet (fn6 [n5] g1) fun p1 =>
    zLet p1.2.2 fun g2 =>
    if 0 ≤ -n5 + n1 + (-1) then
      zLet (p1.2.1) fun n6 =>
      zLet (fn9 [n6] g2) fun p2 =>
      zLet p2.2.2 fun g3 =>
      if 1 ≤ p2.2.1 then
        .inl (0, [n5 + 1], g3)
      else
        zLet (fn6 [n5] g3) fun p3 =>
        zLet p3.2.2 fun g4 =>
        zLet (p3.2.1) fun n7 =>
        zLet (fn11 [n7] g4) fun p4 =>
        zLet p4.2.2 fun g5 =>
        if 1 ≤ p4.2.1 then
          .inl (0, [n5 + 1], g5)
        else
          zLet (fn6 [n5] g5) fun p5 =>
          zLet p5.2.2 fun g6 =>
          zLet (p5.2.1) fun n8 =>
          if n8 ≠ 95 then
            zLet (rUp g6 15 0 38 (n5 + -n0)) fun g7 =>
            if n5 + -n0 ≤ 12 then
              zLet (rUp g7 15 0 35 n5) fun g8 =>
              .inr (0, 1, g8)
            else
              zLet (fn8 [n0] g7) fun p7 =>
              zLet p7.2.2 fun g8 =>
              .inr (0, 0, g8)
          else
            .inl (0, [n5 + 1], g6)
    else
      zLet (fn9 [(-1)] g2) fun p2 =>
      zLet p2.2.2 fun g3 =>
      zLet (fn6 [n5] g3) fun p3 =>
      zLet p3.2.2 fun g4 =>
      zLet (fn11 [(-1)] g4) fun p4 =>
      zLet p4.2.2 fun g5 =>
      zLet (fn6 [n5] g5) fun p5 =>
      zLet p5.2.2 fun g6 =>
      zLet (rUp g6 15 0 38 (n5 + -n0)) fun g7 =>
      if n5 + -n0 ≤ 12 then
        zLet (rUp g7 15 0 35 n5) fun g8 =>
        .inr (0, 1, g8)
      else
        zLet (fn8 [n0] g7) fun p7 =>
        zLet p7.2.2 fun g8 =>
        .inr (0, 0, g8)
  else .inr (0, 0, g0)
noncomputable def fn12 (x : List Int) (g : rHp) : zR := zGoo (en12 g) (dn12 x g)
noncomputable def sn12 : zSpc := fun a g o v g_q => (o, v, g_q) = fn12 [] g
noncomputable def pl12 : Nat → List Int → List Int
  | 0, vs => [vs.getD 5 0]
  | _, _ => []
noncomputable def jn12 : List Int → rHp → Nat → List Int → rHp → Prop := fun a g i vs g1 => fn12 [] g = zLoop (en12 g) (i, pl12 i vs, g1)
noncomputable def fn13 (x : List Int) (g0 : rHp) : zR :=
  zLet (x.getD 0 0) fun n0 =>
  zLet (x.getD 1 0) fun n1 =>
  zLet (x.getD 2 0) fun n2 =>
  zLet (x.getD 3 0) fun n3 =>
  zLet (x.getD 4 0) fun n4 =>
  zLet (g0 15 0 37) fun n5 =>
  zLet (g0 15 0 38) fun n6 =>
  if n1 ≠ 0 then
    if n2 ≠ 0 then
      if n3 ≠ 0 then
        if n4 ≠ 0 then
          if n6 ≠ 5 then
            (0, 0, g0)
          else
            zLet (g0 59 0 n5) fun n7 =>
            if n7 ≠ n0 then
              (0, 0, g0)
            else
              zLet (g0 59 0 (n5 + 1)) fun n8 =>
              if n8 ≠ n1 then
                (0, 0, g0)
              else
                zLet (g0 59 0 (n5 + 2)) fun n9 =>
                if n9 ≠ n2 then
                  (0, 0, g0)
                else
                  zLet (g0 59 0 (n5 + 3)) fun n10 =>
                  if n10 ≠ n3 then
                    (0, 0, g0)
                  else
                    zLet (g0 59 0 (n5 + 4)) fun n11 =>
                    if n11 ≠ n4 then
                      (0, 0, g0)
                    else
                      (0, 1, g0)
        else
          if n6 ≠ 4 then
            (0, 0, g0)
          else
            zLet (g0 59 0 n5) fun n7 =>
            if n7 ≠ n0 then
              (0, 0, g0)
            else
              zLet (g0 59 0 (n5 + 1)) fun n8 =>
              if n8 ≠ n1 then
                (0, 0, g0)
              else
                zLet (g0 59 0 (n5 + 2)) fun n9 =>
                if n9 ≠ n2 then
                  (0, 0, g0)
                else
                  zLet (g0 59 0 (n5 + 3)) fun n10 =>
                  if n10 ≠ n3 then
                    (0, 0, g0)
                  else
                    (0, 1, g0)
      else
        if n6 ≠ 3 then
          (0, 0, g0)
        else
          zLet (g0 59 0 n5) fun n7 =>
          if n7 ≠ n0 then
            (0, 0, g0)
          else
            zLet (g0 59 0 (n5 + 1)) fun n8 =>
            if n8 ≠ n1 then
              (0, 0, g0)
            else
              zLet (g0 59 0 (n5 + 2)) fun n9 =>
              if n9 ≠ n2 then
                (0, 0, g0)
              else
                (0, 1, g0)
    else
      if n6 ≠ 2 then
        (0, 0, g0)
      else
        zLet (g0 59 0 n5) fun n7 =>
        if n7 ≠ n0 then
          (0, 0, g0)
        else
          zLet (g0 59 0 (n5 + 1)) fun n8 =>
          if n8 ≠ n1 then
            (0, 0, g0)
          else
            (0, 1, g0)
  else
    if n6 ≠ 1 then
      (0, 0, g0)
    else
      zLet (g0 59 0 n5) fun n7 =>
      if n7 ≠ n0 then
        (0, 0, g0)
      else
        (0, 1, g0)
noncomputable def sn13 : zSpc := fun a g o v g_q => (o, v, g_q) = fn13 [a.getD 0 0, a.getD 1 0, a.getD 2 0, a.getD 3 0, a.getD 4 0] g
noncomputable def dn14 (x : List Int) (g0 : rHp) : zSt :=
  zLet (g0 15 0 35) fun n0 =>
  zLet (g0 15 0 34) fun n1 =>
  zLet (fn6 [n0] g0) fun p0 =>
  zLet p0.2.2 fun g1 =>
  zLet (p0.2.1) fun n4 =>
  if n4 ≠ 45 then
    zLet (fn6 [n0] g1) fun p1 =>
    zLet p1.2.2 fun g2 =>
    zLet (p1.2.1) fun n5 =>
    zLet (fn11 [n5] g2) fun p2 =>
    zLet p2.2.2 fun g3 =>
    if 1 ≤ p2.2.1 then
      zLet (fn6 [n0] g3) fun p3 =>
      zLet p3.2.2 fun g4 =>
      zLet (p3.2.1) fun n6 =>
      zLet (fn6 [n0 + 1] g4) fun p4 =>
      zLet p4.2.2 fun g5 =>
      if 0 ≤ n1 + -n0 + (-2) then
        zLet (p4.2.1) fun n7 =>
        zLet (fn11 [n7] g5) fun p5 =>
        zLet p5.2.2 fun g6 =>
        if 1 ≤ p5.2.1 then
          zLet (fn6 [n0 + 1] g6) fun p6 =>
          zLet p6.2.2 fun g7 =>
          zLet (p6.2.1) fun n8 =>
          zLet (fn6 [n0 + 2] g7) fun p7 =>
          zLet p7.2.2 fun g8 =>
          if 0 ≤ n1 + -n0 + (-3) then
            zLet (p7.2.1) fun n9 =>
            zLet (fn11 [n9] g8) fun p8 =>
            zLet p8.2.2 fun g9 =>
            if 1 ≤ p8.2.1 then
              zLet (fn6 [n0 + 2] g9) fun p9 =>
              zLet p9.2.2 fun g10 =>
              zLet (p9.2.1) fun n10 =>
              zLet (fn6 [n0 + 3] g10) fun p10 =>
              zLet p10.2.2 fun g11 =>
              if 0 ≤ n1 + -n0 + (-4) then
                zLet (p10.2.1) fun n11 =>
                zLet (fn11 [n11] g11) fun p11 =>
                zLet p11.2.2 fun g12 =>
                if 1 ≤ p11.2.1 then
                  zLet (fn6 [n0 + 3] g12) fun p12 =>
                  zLet p12.2.2 fun g13 =>
                  zLet (p12.2.1) fun n12 =>
                  zLet (fn6 [n0 + 4] g13) fun p13 =>
                  zLet p13.2.2 fun g14 =>
                  if 0 ≤ n1 + -n0 + (-5) then
                    zLet (p13.2.1) fun n13 =>
                    zLet (fn11 [n13] g14) fun p14 =>
                    zLet p14.2.2 fun g15 =>
                    if 1 ≤ p14.2.1 then
                      zLet (fn6 [n0 + 4] g15) fun p15 =>
                      zLet p15.2.2 fun g16 =>
                      zLet (p15.2.1) fun n14 =>
                      zLet (fn6 [n0 + 5] g16) fun p16 =>
                      zLet p16.2.2 fun g17 =>
                      if 0 ≤ n1 + -n0 + (-6) then
                        zLet (p16.2.1) fun n15 =>
                        zLet (fn11 [n15] g17) fun p17 =>
                        zLet p17.2.2 fun g18 =>
                        if 1 ≤ p17.2.1 then
                          zLet (fn6 [n0 + 5] g18) fun p18 =>
                          zLet p18.2.2 fun g19 =>
                          zLet (p18.2.1) fun n16 =>
                          zLet (fn6 [n0 + 6] g19) fun p19 =>
                          zLet p19.2.2 fun g20 =>
                          if 0 ≤ n1 + -n0 + (-7) then
                            zLet (p19.2.1) fun n17 =>
                            zLet (fn11 [n17] g20) fun p20 =>
                            zLet p20.2.2 fun g21 =>
                            if 1 ≤ p20.2.1 then
                              zLet (fn6 [n0 + 6] g21) fun p21 =>
                              zLet p21.2.2 fun g22 =>
                              zLet (p21.2.1) fun n18 =>
                              zLet (fn6 [n0 + 7] g22) fun p22 =>
                              zLet p22.2.2 fun g23 =>
                              if 0 ≤ n1 + -n0 + (-8) then
                                zLet (p22.2.1) fun n19 =>
                                zLet (fn11 [n19] g23) fun p23 =>
                                zLet p23.2.2 fun g24 =>
                                if 1 ≤ p23.2.1 then
                                  zLet (fn6 [n0 + 7] g24) fun p24 =>
                                  zLet p24.2.2 fun g25 =>
                                  zLet (p24.2.1) fun n20 =>
                                  .inl (0, [n0 + 8, n20 + (10 * n18 + (100 * n16 + (1000 * n14 + (10000 * n12 + (100000 * n10 + (1000000 * n8 + 10000000 * n6)))))) + (-533333328), n0, 0], g25)
                                else
                                  zLet (rUp g24 15 0 35 (n0 + 7)) fun g25 =>
                                  zLet (rUp g25 15 0 39 (n18 + (10 * n16 + (100 * n14 + (1000 * n12 + (10000 * n10 + (100000 * n8 + 1000000 * n6))))) + (-53333328))) fun g26 =>
                                  zLet (rUp g26 15 0 40 0) fun g27 =>
                                  .inr (0, 1, g27)
                              else
                                zLet (fn11 [(-1)] g23) fun p23 =>
                                zLet p23.2.2 fun g24 =>
                                zLet (rUp g24 15 0 35 (n0 + 7)) fun g25 =>
                                zLet (rUp g25 15 0 39 (n18 + (10 * n16 + (100 * n14 + (1000 * n12 + (10000 * n10 + (100000 * n8 + 1000000 * n6))))) + (-53333328))) fun g26 =>
                                zLet (rUp g26 15 0 40 0) fun g27 =>
                                .inr (0, 1, g27)
                            else
                              zLet (rUp g21 15 0 35 (n0 + 6)) fun g22 =>
                              zLet (rUp g22 15 0 39 (n16 + (10 * n14 + (100 * n12 + (1000 * n10 + (10000 * n8 + 100000 * n6)))) + (-5333328))) fun g23 =>
                              zLet (rUp g23 15 0 40 0) fun g24 =>
                              .inr (0, 1, g24)
                          else
                            zLet (fn11 [(-1)] g20) fun p20 =>
                            zLet p20.2.2 fun g21 =>
                            zLet (rUp g21 15 0 35 (n0 + 6)) fun g22 =>
                            zLet (rUp g22 15 0 39 (n16 + (10 * n14 + (100 * n12 + (1000 * n10 + (10000 * n8 + 100000 * n6)))) + (-5333328))) fun g23 =>
                            zLet (rUp g23 15 0 40 0) fun g24 =>
                            .inr (0, 1, g24)
                        else
                          zLet (rUp g18 15 0 35 (n0 + 5)) fun g19 =>
                          zLet (rUp g19 15 0 39 (n14 + (10 * n12 + (100 * n10 + (1000 * n8 + 10000 * n6))) + (-533328))) fun g20 =>
                          zLet (rUp g20 15 0 40 0) fun g21 =>
                          .inr (0, 1, g21)
                      else
                        zLet (fn11 [(-1)] g17) fun p17 =>
                        zLet p17.2.2 fun g18 =>
                        zLet (rUp g18 15 0 35 (n0 + 5)) fun g19 =>
                        zLet (rUp g19 15 0 39 (n14 + (10 * n12 + (100 * n10 + (1000 * n8 + 10000 * n6))) + (-533328))) fun g20 =>
                        zLet (rUp g20 15 0 40 0) fun g21 =>
                        .inr (0, 1, g21)
                    else
                      zLet (rUp g15 15 0 35 (n0 + 4)) fun g16 =>
                      zLet (rUp g16 15 0 39 (n12 + (10 * n10 + (100 * n8 + 1000 * n6)) + (-53328))) fun g17 =>
                      zLet (rUp g17 15 0 40 0) fun g18 =>
                      .inr (0, 1, g18)
                  else
                    zLet (fn11 [(-1)] g14) fun p14 =>
                    zLet p14.2.2 fun g15 =>
                    zLet (rUp g15 15 0 35 (n0 + 4)) fun g16 =>
                    zLet (rUp g16 15 0 39 (n12 + (10 * n10 + (100 * n8 + 1000 * n6)) + (-53328))) fun g17 =>
                    zLet (rUp g17 15 0 40 0) fun g18 =>
                    .inr (0, 1, g18)
                else
                  zLet (rUp g12 15 0 35 (n0 + 3)) fun g13 =>
                  zLet (rUp g13 15 0 39 (n10 + (10 * n8 + 100 * n6) + (-5328))) fun g14 =>
                  zLet (rUp g14 15 0 40 0) fun g15 =>
                  .inr (0, 1, g15)
              else
                zLet (fn11 [(-1)] g11) fun p11 =>
                zLet p11.2.2 fun g12 =>
                zLet (rUp g12 15 0 35 (n0 + 3)) fun g13 =>
                zLet (rUp g13 15 0 39 (n10 + (10 * n8 + 100 * n6) + (-5328))) fun g14 =>
                zLet (rUp g14 15 0 40 0) fun g15 =>
                .inr (0, 1, g15)
            else
              zLet (rUp g9 15 0 35 (n0 + 2)) fun g10 =>
              zLet (rUp g10 15 0 39 (n8 + 10 * n6 + (-528))) fun g11 =>
              zLet (rUp g11 15 0 40 0) fun g12 =>
              .inr (0, 1, g12)
          else
            zLet (fn11 [(-1)] g8) fun p8 =>
            zLet p8.2.2 fun g9 =>
            zLet (rUp g9 15 0 35 (n0 + 2)) fun g10 =>
            zLet (rUp g10 15 0 39 (n8 + 10 * n6 + (-528))) fun g11 =>
            zLet (rUp g11 15 0 40 0) fun g12 =>
            .inr (0, 1, g12)
        else
          zLet (rUp g6 15 0 35 (n0 + 1)) fun g7 =>
          zLet (rUp g7 15 0 39 (n6 + (-48))) fun g8 =>
          zLet (rUp g8 15 0 40 0) fun g9 =>
          .inr (0, 1, g9)
      else
        zLet (fn11 [(-1)] g5) fun p5 =>
        zLet p5.2.2 fun g6 =>
        zLet (rUp g6 15 0 35 (n0 + 1)) fun g7 =>
        zLet (rUp g7 15 0 39 (n6 + (-48))) fun g8 =>
        zLet (rUp g8 15 0 40 0) fun g9 =>
        .inr (0, 1, g9)
    else
      zLet (fn8 [n0] g3) fun p3 =>
      zLet p3.2.2 fun g4 =>
      .inr (0, 0, g4)
  else
    zLet (fn6 [n0 + 1] g1) fun p1 =>
    zLet p1.2.2 fun g2 =>
    if 0 ≤ n1 + -n0 + (-2) then
      zLet (p1.2.1) fun n5 =>
      zLet (fn11 [n5] g2) fun p2 =>
      zLet p2.2.2 fun g3 =>
      if 1 ≤ p2.2.1 then
        zLet (fn6 [n0 + 1] g3) fun p3 =>
        zLet p3.2.2 fun g4 =>
        zLet (p3.2.1) fun n6 =>
        zLet (fn6 [n0 + 2] g4) fun p4 =>
        zLet p4.2.2 fun g5 =>
        if 0 ≤ n1 + -n0 + (-3) then
          zLet (p4.2.1) fun n7 =>
          zLet (fn11 [n7] g5) fun p5 =>
          zLet p5.2.2 fun g6 =>
          if 1 ≤ p5.2.1 then
            zLet (fn6 [n0 + 2] g6) fun p6 =>
            zLet p6.2.2 fun g7 =>
            zLet (p6.2.1) fun n8 =>
            zLet (fn6 [n0 + 3] g7) fun p7 =>
            zLet p7.2.2 fun g8 =>
            if 0 ≤ n1 + -n0 + (-4) then
              zLet (p7.2.1) fun n9 =>
              zLet (fn11 [n9] g8) fun p8 =>
              zLet p8.2.2 fun g9 =>
              if 1 ≤ p8.2.1 then
                zLet (fn6 [n0 + 3] g9) fun p9 =>
                zLet p9.2.2 fun g10 =>
                zLet (p9.2.1) fun n10 =>
                zLet (fn6 [n0 + 4] g10) fun p10 =>
                zLet p10.2.2 fun g11 =>
                if 0 ≤ n1 + -n0 + (-5) then
                  zLet (p10.2.1) fun n11 =>
                  zLet (fn11 [n11] g11) fun p11 =>
                  zLet p11.2.2 fun g12 =>
                  if 1 ≤ p11.2.1 then
                    zLet (fn6 [n0 + 4] g12) fun p12 =>
                    zLet p12.2.2 fun g13 =>
                    zLet (p12.2.1) fun n12 =>
                    zLet (fn6 [n0 + 5] g13) fun p13 =>
                    zLet p13.2.2 fun g14 =>
                    if 0 ≤ n1 + -n0 + (-6) then
                      zLet (p13.2.1) fun n13 =>
                      zLet (fn11 [n13] g14) fun p14 =>
                      zLet p14.2.2 fun g15 =>
                      if 1 ≤ p14.2.1 then
                        zLet (fn6 [n0 + 5] g15) fun p15 =>
                        zLet p15.2.2 fun g16 =>
                        zLet (p15.2.1) fun n14 =>
                        zLet (fn6 [n0 + 6] g16) fun p16 =>
                        zLet p16.2.2 fun g17 =>
                        if 0 ≤ n1 + -n0 + (-7) then
                          zLet (p16.2.1) fun n15 =>
                          zLet (fn11 [n15] g17) fun p17 =>
                          zLet p17.2.2 fun g18 =>
                          if 1 ≤ p17.2.1 then
                            zLet (fn6 [n0 + 6] g18) fun p18 =>
                            zLet p18.2.2 fun g19 =>
                            zLet (p18.2.1) fun n16 =>
                            zLet (fn6 [n0 + 7] g19) fun p19 =>
                            zLet p19.2.2 fun g20 =>
                            if 0 ≤ n1 + -n0 + (-8) then
                              zLet (p19.2.1) fun n17 =>
                              zLet (fn11 [n17] g20) fun p20 =>
                              zLet p20.2.2 fun g21 =>
                              if 1 ≤ p20.2.1 then
                                zLet (fn6 [n0 + 7] g21) fun p21 =>
                                zLet p21.2.2 fun g22 =>
                                zLet (p21.2.1) fun n18 =>
                                zLet (fn6 [n0 + 8] g22) fun p22 =>
                                zLet p22.2.2 fun g23 =>
                                if 0 ≤ n1 + -n0 + (-9) then
                                  zLet (p22.2.1) fun n19 =>
                                  zLet (fn11 [n19] g23) fun p23 =>
                                  zLet p23.2.2 fun g24 =>
                                  if 1 ≤ p23.2.1 then
                                    zLet (fn6 [n0 + 8] g24) fun p24 =>
                                    zLet p24.2.2 fun g25 =>
                                    zLet (p24.2.1) fun n20 =>
                                    .inl (0, [n0 + 9, n20 + (10 * n18 + (100 * n16 + (1000 * n14 + (10000 * n12 + (100000 * n10 + (1000000 * n8 + 10000000 * n6)))))) + (-533333328), n0 + 1, 1], g25)
                                  else
                                    zLet (rUp g24 15 0 35 (n0 + 8)) fun g25 =>
                                    zLet (zF1 .lneg (n18 + (10 * n16 + (100 * n14 + (1000 * n12 + (10000 * n10 + (100000 * n8 + 1000000 * n6))))) + (-53333328))) fun n20 =>
                                    zLet (rUp g25 15 0 39 n20) fun g26 =>
                                    zLet (rUp g26 15 0 40 0) fun g27 =>
                                    .inr (0, 1, g27)
                                else
                                  zLet (fn11 [(-1)] g23) fun p23 =>
                                  zLet p23.2.2 fun g24 =>
                                  zLet (rUp g24 15 0 35 (n0 + 8)) fun g25 =>
                                  zLet (zF1 .lneg (n18 + (10 * n16 + (100 * n14 + (1000 * n12 + (10000 * n10 + (100000 * n8 + 1000000 * n6))))) + (-53333328))) fun n19 =>
                                  zLet (rUp g25 15 0 39 n19) fun g26 =>
                                  zLet (rUp g26 15 0 40 0) fun g27 =>
                                  .inr (0, 1, g27)
                              else
                                zLet (rUp g21 15 0 35 (n0 + 7)) fun g22 =>
                                zLet (zF1 .lneg (n16 + (10 * n14 + (100 * n12 + (1000 * n10 + (10000 * n8 + 100000 * n6)))) + (-5333328))) fun n18 =>
                                zLet (rUp g22 15 0 39 n18) fun g23 =>
                                zLet (rUp g23 15 0 40 0) fun g24 =>
                                .inr (0, 1, g24)
                            else
                              zLet (fn11 [(-1)] g20) fun p20 =>
                              zLet p20.2.2 fun g21 =>
                              zLet (rUp g21 15 0 35 (n0 + 7)) fun g22 =>
                              zLet (zF1 .lneg (n16 + (10 * n14 + (100 * n12 + (1000 * n10 + (10000 * n8 + 100000 * n6)))) + (-5333328))) fun n17 =>
                              zLet (rUp g22 15 0 39 n17) fun g23 =>
                              zLet (rUp g23 15 0 40 0) fun g24 =>
                              .inr (0, 1, g24)
                          else
                            zLet (rUp g18 15 0 35 (n0 + 6)) fun g19 =>
                            zLet (zF1 .lneg (n14 + (10 * n12 + (100 * n10 + (1000 * n8 + 10000 * n6))) + (-533328))) fun n16 =>
                            zLet (rUp g19 15 0 39 n16) fun g20 =>
                            zLet (rUp g20 15 0 40 0) fun g21 =>
                            .inr (0, 1, g21)
                        else
                          zLet (fn11 [(-1)] g17) fun p17 =>
                          zLet p17.2.2 fun g18 =>
                          zLet (rUp g18 15 0 35 (n0 + 6)) fun g19 =>
                          zLet (zF1 .lneg (n14 + (10 * n12 + (100 * n10 + (1000 * n8 + 10000 * n6))) + (-533328))) fun n15 =>
                          zLet (rUp g19 15 0 39 n15) fun g20 =>
                          zLet (rUp g20 15 0 40 0) fun g21 =>
                          .inr (0, 1, g21)
                      else
                        zLet (rUp g15 15 0 35 (n0 + 5)) fun g16 =>
                        zLet (zF1 .lneg (n12 + (10 * n10 + (100 * n8 + 1000 * n6)) + (-53328))) fun n14 =>
                        zLet (rUp g16 15 0 39 n14) fun g17 =>
                        zLet (rUp g17 15 0 40 0) fun g18 =>
                        .inr (0, 1, g18)
                    else
                      zLet (fn11 [(-1)] g14) fun p14 =>
                      zLet p14.2.2 fun g15 =>
                      zLet (rUp g15 15 0 35 (n0 + 5)) fun g16 =>
                      zLet (zF1 .lneg (n12 + (10 * n10 + (100 * n8 + 1000 * n6)) + (-53328))) fun n13 =>
                      zLet (rUp g16 15 0 39 n13) fun g17 =>
                      zLet (rUp g17 15 0 40 0) fun g18 =>
                      .inr (0, 1, g18)
                  else
                    zLet (rUp g12 15 0 35 (n0 + 4)) fun g13 =>
                    zLet (zF1 .lneg (n10 + (10 * n8 + 100 * n6) + (-5328))) fun n12 =>
                    zLet (rUp g13 15 0 39 n12) fun g14 =>
                    zLet (rUp g14 15 0 40 0) fun g15 =>
                    .inr (0, 1, g15)
                else
                  zLet (fn11 [(-1)] g11) fun p11 =>
                  zLet p11.2.2 fun g12 =>
                  zLet (rUp g12 15 0 35 (n0 + 4)) fun g13 =>
                  zLet (zF1 .lneg (n10 + (10 * n8 + 100 * n6) + (-5328))) fun n11 =>
                  zLet (rUp g13 15 0 39 n11) fun g14 =>
                  zLet (rUp g14 15 0 40 0) fun g15 =>
                  .inr (0, 1, g15)
              else
                zLet (rUp g9 15 0 35 (n0 + 3)) fun g10 =>
                zLet (zF1 .lneg (n8 + 10 * n6 + (-528))) fun n10 =>
                zLet (rUp g10 15 0 39 n10) fun g11 =>
                zLet (rUp g11 15 0 40 0) fun g12 =>
                .inr (0, 1, g12)
            else
              zLet (fn11 [(-1)] g8) fun p8 =>
              zLet p8.2.2 fun g9 =>
              zLet (rUp g9 15 0 35 (n0 + 3)) fun g10 =>
              zLet (zF1 .lneg (n8 + 10 * n6 + (-528))) fun n9 =>
              zLet (rUp g10 15 0 39 n9) fun g11 =>
              zLet (rUp g11 15 0 40 0) fun g12 =>
              .inr (0, 1, g12)
          else
            zLet (rUp g6 15 0 35 (n0 + 2)) fun g7 =>
            zLet (zF1 .lneg (n6 + (-48))) fun n8 =>
            zLet (rUp g7 15 0 39 n8) fun g8 =>
            zLet (rUp g8 15 0 40 0) fun g9 =>
            .inr (0, 1, g9)
        else
          zLet (fn11 [(-1)] g5) fun p5 =>
          zLet p5.2.2 fun g6 =>
          zLet (rUp g6 15 0 35 (n0 + 2)) fun g7 =>
          zLet (zF1 .lneg (n6 + (-48))) fun n7 =>
          zLet (rUp g7 15 0 39 n7) fun g8 =>
          zLet (rUp g8 15 0 40 0) fun g9 =>
          .inr (0, 1, g9)
      else
        zLet (fn8 [n0] g3) fun p3 =>
        zLet p3.2.2 fun g4 =>
        .inr (0, 0, g4)
    else
      zLet (fn11 [(-1)] g2) fun p2 =>
      zLet p2.2.2 fun g3 =>
      zLet (fn8 [n0] g3) fun p3 =>
      zLet p3.2.2 fun g4 =>
      .inr (0, 0, g4)
noncomputable def en14 (g0 : rHp) (s : Nat × List Int × rHp) : zSt :=
  if s.1 = 0 then
    zLet s.2.2 fun g1 =>
    zLet (s.2.1.getD 0 0) fun n4 =>
    zLet (s.2.1.getD 1 0) fun n5 =>
    zLet (s.2.1.getD 2 0) fun n6 =>
    zLet (s.2.1.getD 3 0) fun n7 =>
    zLet (g0 15 0 35) fun n0 =>
    zLet (g0 15 0 34) fun n1 =>
    zLet (fn6 [n4] g1) fun p1 =>
    zLet p1.2.2 fun g2 =>
    if 0 ≤ -n4 + n1 + (-1) then
      zLet (p1.2.1) fun n8 =>
      zLet (fn11 [n8] g2) fun p2 =>
      zLet p2.2.2 fun g3 =>
      if 1 ≤ p2.2.1 then
        .inl (0, [n4 + 1, n5, n6, n7], g3)
      else
        zLet (fn8 [n0] g3) fun p3 =>
        zLet p3.2.2 fun g4 =>
        .inr (0, 0, g4)
    else
      zLet (fn11 [(-1)] g2) fun p2 =>
      zLet p2.2.2 fun g3 =>
      zLet (fn8 [n0] g3) fun p3 =>
      zLet p3.2.2 fun g4 =>
      .inr (0, 0, g4)
  else .inr (0, 0, g0)
noncomputable def fn14 (x : List Int) (g : rHp) : zR := zGoo (en14 g) (dn14 x g)
noncomputable def sn14 : zSpc := fun a g o v g_q => (o, v, g_q) = fn14 [] g
noncomputable def pl14 : Nat → List Int → List Int
  | 0, vs => [vs.getD 4 0, vs.getD 5 0, vs.getD 6 0, vs.getD 7 0]
  | _, _ => []
noncomputable def jn14 : List Int → rHp → Nat → List Int → rHp → Prop := fun a g i vs g1 => fn14 [] g = zLoop (en14 g) (i, pl14 i vs, g1)
noncomputable def dn15 (x : List Int) (g0 : rHp) : zSt :=
  .inl (0, [0], g0)
noncomputable def en15 (g0 : rHp) (s : Nat × List Int × rHp) : zSt :=
  if s.1 = 0 then
    zLet s.2.2 fun g1 =>
    zLet (s.2.1.getD 0 0) fun n5 =>
    zLet (g0 15 0 8) fun n1 =>
    zLet (g0 15 0 9) fun n2 =>
    zLet (g0 15 0 38) fun n4 =>
    if n5 ≥ n1 then
      zLet (rUp g1 62 0 n1 n2) fun g2 =>
      zLet (rUp g2 63 0 n1 n4) fun g3 =>
      .inl (2, [0], g3)
    else
      zLet (g0 63 0 n5) fun n6 =>
      if n6 ≠ n4 then
        .inl (1, [0, 0, n5], g1)
      else
        .inl (1, [0, 1, n5], g1)
  else if s.1 = 1 then
    zLet s.2.2 fun g1 =>
    zLet (s.2.1.getD 0 0) fun n5 =>
    zLet (s.2.1.getD 1 0) fun n6 =>
    zLet (s.2.1.getD 2 0) fun n7 =>
    zLet (g0 15 0 37) fun n3 =>
    zLet (g0 15 0 38) fun n4 =>
    if n5 ≥ n4 then
      if n6 = 0 then
        .inl (0, [n7 + 1], g1)
      else
        .inr (0, n7 + 1099511627776, g1)
    else
      if n6 = 0 then
        .inl (0, [n7 + 1], g1)
      else
        zLet (g0 62 0 n7) fun n8 =>
        zLet (g0 61 0 (n8 + n5)) fun n9 =>
        zLet (g0 59 0 (n5 + n3)) fun n10 =>
        if n9 ≠ n10 then
          .inl (1, [n5 + 1, 0, n7], g1)
        else
          .inl (1, [n5 + 1, 1, n7], g1)
  else if s.1 = 2 then
    zLet s.2.2 fun g1 =>
    zLet (s.2.1.getD 0 0) fun n5 =>
    zLet (g0 15 0 8) fun n1 =>
    zLet (g0 15 0 9) fun n2 =>
    zLet (g0 15 0 37) fun n3 =>
    zLet (g0 15 0 38) fun n4 =>
    if n5 ≥ n4 then
      zLet (rUp g1 15 0 9 (n4 + n2)) fun g2 =>
      zLet (rUp g2 15 0 8 (n1 + 1)) fun g3 =>
      .inr (0, n1 + 1099511627776, g3)
    else
      zLet (g0 59 0 (n5 + n3)) fun n6 =>
      zLet (rUp g1 61 0 (n5 + n2) n6) fun g2 =>
      .inl (2, [n5 + 1], g2)
  else .inr (0, 0, g0)
noncomputable def fn15 (x : List Int) (g : rHp) : zR := zGoo (en15 g) (dn15 x g)
noncomputable def sn15 : zSpc := fun a g o v g_q => (o, v, g_q) = fn15 [] g
noncomputable def pl15 : Nat → List Int → List Int
  | 0, vs => [vs.getD 5 0]
  | 1, vs => [vs.getD 5 0, vs.getD 6 0, vs.getD 7 0]
  | 2, vs => [vs.getD 5 0]
  | _, _ => []
noncomputable def jn15 : List Int → rHp → Nat → List Int → rHp → Prop := fun a g i vs g1 => fn15 [] g = zLoop (en15 g) (i, pl15 i vs, g1)
noncomputable def dn16 (x : List Int) (g0 : rHp) : zSt :=
  zLet (x.getD 0 0) fun n0 =>
  zLet (g0 83 0 n0) fun n1 =>
  zLet (g0 15 0 38) fun n4 =>
  if n1 = n4 then
    .inl (0, [n0, 0], g0)
  else
    .inr (0, 0, g0)
noncomputable def en16 (g0 : rHp) (s : Nat × List Int × rHp) : zSt :=
  if s.1 = 0 then
    zLet s.2.2 fun g1 =>
    zLet (s.2.1.getD 0 0) fun n0 =>
    zLet (s.2.1.getD 1 0) fun n5 =>
    zLet (g0 82 0 n0) fun n2 =>
    zLet (g0 15 0 37) fun n3 =>
    zLet (g0 15 0 38) fun n4 =>
    if n5 ≥ n4 then
      .inr (0, 1, g1)
    else
      zLet (g0 59 0 (n5 + n2)) fun n6 =>
      zLet (g0 59 0 (n5 + n3)) fun n7 =>
      if n6 = n7 then
        .inl (0, [n0, n5 + 1], g1)
      else
        .inr (0, 0, g1)
  else .inr (0, 0, g0)
noncomputable def fn16 (x : List Int) (g : rHp) : zR := zGoo (en16 g) (dn16 x g)
noncomputable def sn16 : zSpc := fun a g o v g_q => (o, v, g_q) = fn16 [a.getD 0 0] g
noncomputable def pl16 : Nat → List Int → List Int
  | 0, vs => [vs.getD 0 0, vs.getD 5 0]
  | _, _ => []
noncomputable def jn16 : List Int → rHp → Nat → List Int → rHp → Prop := fun a g i vs g1 => fn16 [a.getD 0 0] g = zLoop (en16 g) (i, pl16 i vs, g1)
noncomputable def dn17 (x : List Int) (g0 : rHp) : zSt :=
  zLet (fn12 [] g0) fun p0 =>
  zLet p0.2.2 fun g1 =>
  if 1 ≤ p0.2.1 then
    .inl (0, [0], g1)
  else
    .inr (0, 0, g1)
noncomputable def en17 (g0 : rHp) (s : Nat × List Int × rHp) : zSt :=
  if s.1 = 0 then
    zLet s.2.2 fun g1 =>
    zLet (s.2.1.getD 0 0) fun n9 =>
    zLet (g0 15 0 35) fun n0 =>
    zLet (g0 15 0 44) fun n7 =>
    zLet (g0 74 0 n7) fun n8 =>
    zLet (g1 15 0 38) fun n11 =>
    if n9 ≥ n8 then
      if n9 ≠ 8 then
        zLet (rUp g1 82 0 n9 n0) fun g2 =>
        zLet (rUp g2 83 0 n9 n11) fun g3 =>
        zLet (rUp g3 84 0 n9 0) fun g4 =>
        zLet (rUp g4 74 0 n7 (n8 + 1)) fun g5 =>
        zLet (rUp g5 84 0 n9 1) fun g6 =>
        zLet (rUp g6 15 0 39 n9) fun g7 =>
        zLet (rUp g7 15 0 40 1) fun g8 =>
        .inr (0, 1, g8)
      else
        zLet (fn8 [n0] g1) fun p1 =>
        zLet p1.2.2 fun g2 =>
        .inr (0, 0, g2)
    else
      zLet (fn16 [n9] g1) fun p1 =>
      zLet p1.2.2 fun g2 =>
      if 1 ≤ p1.2.1 then
        if n9 ≠ 8 then
          zLet (g0 84 0 n9) fun n14 =>
          zLet (zF2 .iadd n14 1) fun n15 =>
          zLet (rUp g2 84 0 n9 n15) fun g3 =>
          zLet (rUp g3 15 0 39 n9) fun g4 =>
          zLet (rUp g4 15 0 40 1) fun g5 =>
          .inr (0, 1, g5)
        else
          zLet (fn8 [n0] g2) fun p2 =>
          zLet p2.2.2 fun g3 =>
          .inr (0, 0, g3)
      else
        .inl (0, [n9 + 1], g2)
  else .inr (0, 0, g0)
noncomputable def fn17 (x : List Int) (g : rHp) : zR := zGoo (en17 g) (dn17 x g)
noncomputable def sn17 : zSpc := fun a g o v g_q => (o, v, g_q) = fn17 [] g
noncomputable def pl17 : Nat → List Int → List Int
  | 0, vs => [vs.getD 9 0]
  | _, _ => []
noncomputable def jn17 : List Int → rHp → Nat → List Int → rHp → Prop := fun a g i vs g1 => fn17 [] g = zLoop (en17 g) (i, pl17 i vs, g1)
noncomputable def fn18 (x : List Int) (g0 : rHp) : zR :=
  zLet (x.getD 0 0) fun n0 =>
  zLet (g0 15 0 45) fun n1 =>
  zLet (zF2 .ishr n1 n0) fun n2 =>
  zLet (zF2 .iand n2 1) fun n3 =>
  if n3 ≠ 1 then
    (0, 0, g0)
  else
    (0, 1, g0)
noncomputable def sn18 : zSpc := fun a g o v g_q => (o, v, g_q) = fn18 [a.getD 0 0] g
noncomputable def fn19 (x : List Int) (g0 : rHp) : zR :=
  zLet (x.getD 0 0) fun n0 =>
  zLet (g0 15 0 45) fun n1 =>
  zLet (zF1 .l2i n0) fun n2 =>
  zLet (zF2 .ishr n1 n2) fun n3 =>
  zLet (zF2 .iand n3 1) fun n4 =>
  if n4 ≠ 1 then
    (0, 0, g0)
  else
    (0, 1, g0)
noncomputable def sn19 : zSpc := fun a g o v g_q => (o, v, g_q) = fn19 [a.getD 0 0] g
noncomputable def fn20 (x : List Int) (g0 : rHp) : zR :=
  zLet (x.getD 0 0) fun n0 =>
  zLet (g0 15 0 34) fun n2 =>
  zLet (fn7 [] g0) fun p0 =>
  zLet p0.2.2 fun g1 =>
  zLet (g1 15 0 35) fun n11 =>
  zLet (fn6 [n11] g1) fun p1 =>
  zLet p1.2.2 fun g2 =>
  if 0 ≤ -n11 + n2 + (-1) then
    zLet (p1.2.1) fun n12 =>
    zLet (fn10 [n12] g2) fun p2 =>
    zLet p2.2.2 fun g3 =>
    if 1 ≤ p2.2.1 then
      zLet (fn17 [] g3) fun p3 =>
      zLet p3.2.2 fun g4 =>
      if 1 ≤ p3.2.1 then
        (0, 1, g4)
      else
        (0, 0, g4)
    else
      zLet (fn9 [n12] g3) fun p3 =>
      zLet p3.2.2 fun g4 =>
      if 1 ≤ p3.2.1 then
        zLet (fn12 [] g4) fun p4 =>
        zLet p4.2.2 fun g5 =>
        if 1 ≤ p4.2.1 then
          zLet (fn15 [] g5) fun p5 =>
          zLet p5.2.2 fun g6 =>
          zLet (p5.2.1) fun n15 =>
          zLet (rUp g6 15 0 39 n15) fun g7 =>
          zLet (rUp g7 15 0 40 0) fun g8 =>
          (0, 1, g8)
        else
          (0, 0, g5)
      else
        if n0 = 0 then
          if n12 = 45 then
            zLet (fn14 [] g4) fun p4 =>
            zLet p4.2.2 fun g5 =>
            if 1 ≤ p4.2.1 then
              (0, 1, g5)
            else
              (0, 0, g5)
          else
            zLet (fn11 [n12] g4) fun p4 =>
            zLet p4.2.2 fun g5 =>
            if 1 ≤ p4.2.1 then
              zLet (fn14 [] g5) fun p5 =>
              zLet p5.2.2 fun g6 =>
              if 1 ≤ p5.2.1 then
                (0, 1, g6)
              else
                (0, 0, g6)
            else
              zLet (fn8 [n11] g5) fun p5 =>
              zLet p5.2.2 fun g6 =>
              (0, 0, g6)
        else
          if n12 ≠ 95 then
            if n12 = 45 then
              zLet (fn14 [] g4) fun p4 =>
              zLet p4.2.2 fun g5 =>
              if 1 ≤ p4.2.1 then
                (0, 1, g5)
              else
                (0, 0, g5)
            else
              zLet (fn11 [n12] g4) fun p4 =>
              zLet p4.2.2 fun g5 =>
              if 1 ≤ p4.2.1 then
                zLet (fn14 [] g5) fun p5 =>
                zLet p5.2.2 fun g6 =>
                if 1 ≤ p5.2.1 then
                  (0, 1, g6)
                else
                  (0, 0, g6)
              else
                zLet (fn8 [n11] g5) fun p5 =>
                zLet p5.2.2 fun g6 =>
                (0, 0, g6)
          else
            zLet (rUp g4 15 0 35 (n11 + 1)) fun g5 =>
            zLet (rUp g5 15 0 40 2) fun g6 =>
            zLet (rUp g6 15 0 39 0) fun g7 =>
            (0, 1, g7)
  else
    zLet (fn10 [(-1)] g2) fun p2 =>
    zLet p2.2.2 fun g3 =>
    zLet (fn9 [(-1)] g3) fun p3 =>
    zLet p3.2.2 fun g4 =>
    zLet (fn11 [(-1)] g4) fun p4 =>
    zLet p4.2.2 fun g5 =>
    zLet (fn8 [n11] g5) fun p5 =>
    zLet p5.2.2 fun g6 =>
    (0, 0, g6)
noncomputable def sn20 : zSpc := fun a g o v g_q => (o, v, g_q) = fn20 [a.getD 0 0] g
noncomputable def dn21 (x : List Int) (g0 : rHp) : zSt :=
  zLet (x.getD 0 0) fun n0 =>
  zLet (x.getD 1 0) fun n1 =>
  zLet (x.getD 2 0) fun n2 =>
  .inl (0, [n0, n1, n2, 0], g0)
noncomputable def en21 (g0 : rHp) (s : Nat × List Int × rHp) : zSt :=
  if s.1 = 0 then
    zLet s.2.2 fun g1 =>
    zLet (s.2.1.getD 0 0) fun n0 =>
    zLet (s.2.1.getD 1 0) fun n1 =>
    zLet (s.2.1.getD 2 0) fun n2 =>
    zLet (s.2.1.getD 3 0) fun n4 =>
    zLet (g0 15 0 14) fun n3 =>
    if n4 ≥ n3 then
      .inr (0, (-1), g1)
    else
      zLet (g0 66 0 n4) fun n5 =>
      if n5 ≠ n2 then
        .inl (1, [n0, n1, n2, 0, 0, n4], g1)
      else
        zLet (g0 65 0 n4) fun n6 =>
        if n6 ≠ n1 then
          .inl (1, [n0, n1, n2, 0, 0, n4], g1)
        else
          .inl (1, [n0, n1, n2, 0, 1, n4], g1)
  else if s.1 = 1 then
    zLet s.2.2 fun g1 =>
    zLet (s.2.1.getD 0 0) fun n0 =>
    zLet (s.2.1.getD 1 0) fun n1 =>
    zLet (s.2.1.getD 2 0) fun n2 =>
    zLet (s.2.1.getD 3 0) fun n4 =>
    zLet (s.2.1.getD 4 0) fun n5 =>
    zLet (s.2.1.getD 5 0) fun n6 =>
    if n4 ≥ n1 then
      if n5 = 0 then
        .inl (0, [n0, n1, n2, n6 + 1], g1)
      else
        .inr (0, n6, g1)
    else
      if n5 = 0 then
        .inl (0, [n0, n1, n2, n6 + 1], g1)
      else
        zLet (g0 64 0 (12 * n6 + n4)) fun n7 =>
        zLet (g0 59 0 (n4 + n0)) fun n8 =>
        if n7 ≠ n8 then
          .inl (1, [n0, n1, n2, n4 + 1, 0, n6], g1)
        else
          .inl (1, [n0, n1, n2, n4 + 1, 1, n6], g1)
  else .inr (0, 0, g0)
noncomputable def fn21 (x : List Int) (g : rHp) : zR := zGoo (en21 g) (dn21 x g)
noncomputable def sn21 : zSpc := fun a g o v g_q => (o, v, g_q) = fn21 [a.getD 0 0, a.getD 1 0, a.getD 2 0] g
noncomputable def pl21 : Nat → List Int → List Int
  | 0, vs => [vs.getD 0 0, vs.getD 1 0, vs.getD 2 0, vs.getD 4 0]
  | 1, vs => [vs.getD 0 0, vs.getD 1 0, vs.getD 2 0, vs.getD 4 0, vs.getD 5 0, vs.getD 6 0]
  | _, _ => []
noncomputable def jn21 : List Int → rHp → Nat → List Int → rHp → Prop := fun a g i vs g1 => fn21 [a.getD 0 0, a.getD 1 0, a.getD 2 0] g = zLoop (en21 g) (i, pl21 i vs, g1)
noncomputable def dn22 (x : List Int) (g0 : rHp) : zSt :=
  zLet (x.getD 0 0) fun n0 =>
  zLet (x.getD 1 0) fun n1 =>
  zLet (x.getD 2 0) fun n2 =>
  zLet (g0 15 0 14) fun n3 =>
  zLet (rUp g0 66 0 n3 n2) fun g1 =>
  zLet (rUp g1 65 0 n3 n1) fun g2 =>
  .inl (0, [n0, n1, n2, 0], g2)
noncomputable def en22 (g0 : rHp) (s : Nat × List Int × rHp) : zSt :=
  if s.1 = 0 then
    zLet s.2.2 fun g1 =>
    zLet (s.2.1.getD 0 0) fun n0 =>
    zLet (s.2.1.getD 1 0) fun n1 =>
    zLet (s.2.1.getD 2 0) fun n2 =>
    zLet (s.2.1.getD 3 0) fun n4 =>
    zLet (g0 15 0 14) fun n3 =>
    if n4 ≥ n1 then
      zLet (rUp g1 15 0 14 (n3 + 1)) fun g2 =>
      .inr (0, n3, g2)
    else
      zLet (g0 59 0 (n4 + n0)) fun n5 =>
      zLet (rUp g1 64 0 (n4 + 12 * n3) n5) fun g2 =>
      .inl (0, [n0, n1, n2, n4 + 1], g2)
  else .inr (0, 0, g0)
noncomputable def fn22 (x : List Int) (g : rHp) : zR := zGoo (en22 g) (dn22 x g)
noncomputable def sn22 : zSpc := fun a g o v g_q => (o, v, g_q) = fn22 [a.getD 0 0, a.getD 1 0, a.getD 2 0] g
noncomputable def pl22 : Nat → List Int → List Int
  | 0, vs => [vs.getD 0 0, vs.getD 1 0, vs.getD 2 0, vs.getD 4 0]
  | _, _ => []
noncomputable def jn22 : List Int → rHp → Nat → List Int → rHp → Prop := fun a g i vs g1 => fn22 [a.getD 0 0, a.getD 1 0, a.getD 2 0] g = zLoop (en22 g) (i, pl22 i vs, g1)
noncomputable def fn23 (x : List Int) (g0 : rHp) : zR :=
  zLet (g0 15 0 34) fun n1 =>
  zLet (fn7 [] g0) fun p0 =>
  zLet p0.2.2 fun g1 =>
  zLet (g1 15 0 35) fun n5 =>
  zLet (fn6 [n5] g1) fun p1 =>
  zLet p1.2.2 fun g2 =>
  if 0 ≤ -n5 + n1 + (-1) then
    zLet (p1.2.1) fun n6 =>
    zLet (fn9 [n6] g2) fun p2 =>
    zLet p2.2.2 fun g3 =>
    if 1 ≤ p2.2.1 then
      zLet (fn12 [] g3) fun p3 =>
      zLet p3.2.2 fun g4 =>
      if 1 ≤ p3.2.1 then
        (0, 1, g4)
      else
        (0, 0, g4)
    else
      zLet (fn8 [n5] g3) fun p3 =>
      zLet p3.2.2 fun g4 =>
      (0, 0, g4)
  else
    zLet (fn9 [(-1)] g2) fun p2 =>
    zLet p2.2.2 fun g3 =>
    zLet (fn8 [n5] g3) fun p3 =>
    zLet p3.2.2 fun g4 =>
    (0, 0, g4)
noncomputable def sn23 : zSpc := fun a g o v g_q => (o, v, g_q) = fn23 [] g
noncomputable def fn24 (x : List Int) (g0 : rHp) : zR :=
  zLet (x.getD 0 0) fun n0 =>
  zLet (g0 15 0 34) fun n2 =>
  zLet (fn7 [] g0) fun p0 =>
  zLet p0.2.2 fun g1 =>
  zLet (g1 15 0 35) fun n4 =>
  zLet (fn6 [n4] g1) fun p1 =>
  zLet p1.2.2 fun g2 =>
  if 0 ≤ -n4 + n2 + (-1) then
    zLet (p1.2.1) fun n5 =>
    if n5 = n0 then
      zLet (rUp g2 15 0 35 (n4 + 1)) fun g3 =>
      (0, 1, g3)
    else
      zLet (fn8 [n4] g2) fun p2 =>
      zLet p2.2.2 fun g3 =>
      (0, 0, g3)
  else
    zLet (fn8 [n4] g2) fun p2 =>
    zLet p2.2.2 fun g3 =>
    (0, 0, g3)
noncomputable def sn24 : zSpc := fun a g o v g_q => (o, v, g_q) = fn24 [a.getD 0 0] g
noncomputable def fn25 (x : List Int) (g0 : rHp) : zR :=
  zLet (x.getD 0 0) fun n0 =>
  zLet (x.getD 1 0) fun n1 =>
  zLet (x.getD 2 0) fun n2 =>
  zLet (g0 15 0 58) fun n3 =>
  zLet (g0 15 0 45) fun n4 =>
  zLet (rUp g0 88 0 n3 n0) fun g1 =>
  zLet (rUp g1 89 0 n3 n1) fun g2 =>
  zLet (rUp g2 91 0 n3 n2) fun g3 =>
  zLet (rUp g3 90 0 n3 n4) fun g4 =>
  zLet (rUp g4 15 0 58 (n3 + 1)) fun g5 =>
  (0, 0, g5)
noncomputable def sn25 : zSpc := fun a g o v g_q => (o, v, g_q) = fn25 [a.getD 0 0, a.getD 1 0, a.getD 2 0] g
noncomputable def fn26 (x : List Int) (g0 : rHp) : zR :=
  zLet (g0 15 0 35) fun n0 =>
  zLet (g0 15 0 34) fun n1 =>
  zLet (g0 15 0 49) fun n5 =>
  if n5 ≤ 0 then
    zLet (rUp g0 15 0 35 (n0 + 1)) fun g1 =>
    zLet (fn23 [] g1) fun p1 =>
    zLet p1.2.2 fun g2 =>
    if 1 ≤ p1.2.1 then
      zLet (g2 15 0 37) fun n14 =>
      zLet (fn13 [99, 111, 117, 110, 116] g2) fun p2 =>
      zLet p2.2.2 fun g3 =>
      if 1 ≤ p2.2.1 then
        zLet (rUp g3 15 0 49 1) fun g4 =>
        zLet (rUp g4 15 0 40 3) fun g5 =>
        zLet (rUp g5 15 0 39 0) fun g6 =>
        (0, 1, g6)
      else
        zLet (fn13 [115, 117, 109, 0, 0] g3) fun p3 =>
        zLet p3.2.2 fun g4 =>
        if 1 ≤ p3.2.1 then
          zLet (rUp g4 15 0 49 2) fun g5 =>
          zLet (fn7 [] g5) fun p5 =>
          zLet p5.2.2 fun g6 =>
          zLet (g6 15 0 35) fun n16 =>
          zLet (fn6 [n16] g6) fun p6 =>
          zLet p6.2.2 fun g7 =>
          if 0 ≤ -n16 + n1 + (-1) then
            zLet (p6.2.1) fun n17 =>
            zLet (fn10 [n17] g7) fun p7 =>
            zLet p7.2.2 fun g8 =>
            if 1 ≤ p7.2.1 then
              zLet (fn17 [] g8) fun p8 =>
              zLet p8.2.2 fun g9 =>
              if 1 ≤ p8.2.1 then
                zLet (g9 15 0 39) fun n21 =>
                zLet (rUp g9 15 0 50 n21) fun g10 =>
                zLet (fn25 [n16, n21, 0] g10) fun p10 =>
                zLet p10.2.2 fun g11 =>
                zLet (rUp g11 15 0 40 3) fun g12 =>
                zLet (rUp g12 15 0 39 0) fun g13 =>
                (0, 1, g13)
              else
                (0, 0, g9)
            else
              zLet (fn8 [n16] g8) fun p8 =>
              zLet p8.2.2 fun g9 =>
              (0, 0, g9)
          else
            zLet (fn10 [(-1)] g7) fun p7 =>
            zLet p7.2.2 fun g8 =>
            zLet (fn8 [n16] g8) fun p8 =>
            zLet p8.2.2 fun g9 =>
            (0, 0, g9)
        else
          zLet (fn13 [109, 105, 110, 0, 0] g4) fun p4 =>
          zLet p4.2.2 fun g5 =>
          if 1 ≤ p4.2.1 then
            zLet (rUp g5 15 0 49 3) fun g6 =>
            zLet (fn7 [] g6) fun p6 =>
            zLet p6.2.2 fun g7 =>
            zLet (g7 15 0 35) fun n16 =>
            zLet (fn6 [n16] g7) fun p7 =>
            zLet p7.2.2 fun g8 =>
            if 0 ≤ -n16 + n1 + (-1) then
              zLet (p7.2.1) fun n17 =>
              zLet (fn10 [n17] g8) fun p8 =>
              zLet p8.2.2 fun g9 =>
              if 1 ≤ p8.2.1 then
                zLet (fn17 [] g9) fun p9 =>
                zLet p9.2.2 fun g10 =>
                if 1 ≤ p9.2.1 then
                  zLet (g10 15 0 39) fun n21 =>
                  zLet (rUp g10 15 0 50 n21) fun g11 =>
                  zLet (fn25 [n16, n21, 0] g11) fun p11 =>
                  zLet p11.2.2 fun g12 =>
                  zLet (rUp g12 15 0 40 3) fun g13 =>
                  zLet (rUp g13 15 0 39 0) fun g14 =>
                  (0, 1, g14)
                else
                  (0, 0, g10)
              else
                zLet (fn8 [n16] g9) fun p9 =>
                zLet p9.2.2 fun g10 =>
                (0, 0, g10)
            else
              zLet (fn10 [(-1)] g8) fun p8 =>
              zLet p8.2.2 fun g9 =>
              zLet (fn8 [n16] g9) fun p9 =>
              zLet p9.2.2 fun g10 =>
              (0, 0, g10)
          else
            zLet (fn13 [109, 97, 120, 0, 0] g5) fun p5 =>
            zLet p5.2.2 fun g6 =>
            if 1 ≤ p5.2.1 then
              zLet (rUp g6 15 0 49 4) fun g7 =>
              zLet (fn7 [] g7) fun p7 =>
              zLet p7.2.2 fun g8 =>
              zLet (g8 15 0 35) fun n16 =>
              zLet (fn6 [n16] g8) fun p8 =>
              zLet p8.2.2 fun g9 =>
              if 0 ≤ -n16 + n1 + (-1) then
                zLet (p8.2.1) fun n17 =>
                zLet (fn10 [n17] g9) fun p9 =>
                zLet p9.2.2 fun g10 =>
                if 1 ≤ p9.2.1 then
                  zLet (fn17 [] g10) fun p10 =>
                  zLet p10.2.2 fun g11 =>
                  if 1 ≤ p10.2.1 then
                    zLet (g11 15 0 39) fun n21 =>
                    zLet (rUp g11 15 0 50 n21) fun g12 =>
                    zLet (fn25 [n16, n21, 0] g12) fun p12 =>
                    zLet p12.2.2 fun g13 =>
                    zLet (rUp g13 15 0 40 3) fun g14 =>
                    zLet (rUp g14 15 0 39 0) fun g15 =>
                    (0, 1, g15)
                  else
                    (0, 0, g11)
                else
                  zLet (fn8 [n16] g10) fun p10 =>
                  zLet p10.2.2 fun g11 =>
                  (0, 0, g11)
              else
                zLet (fn10 [(-1)] g9) fun p9 =>
                zLet p9.2.2 fun g10 =>
                zLet (fn8 [n16] g10) fun p10 =>
                zLet p10.2.2 fun g11 =>
                (0, 0, g11)
            else
              zLet (rUp g6 15 0 49 0) fun g7 =>
              zLet (fn8 [n14] g7) fun p7 =>
              zLet p7.2.2 fun g8 =>
              (0, 0, g8)
    else
      (0, 0, g2)
  else
    zLet (fn8 [n0] g0) fun p0 =>
    zLet p0.2.2 fun g1 =>
    (0, 0, g1)
noncomputable def sn26 : zSpc := fun a g o v g_q => (o, v, g_q) = fn26 [] g
noncomputable def dn27 (x : List Int) (g0 : rHp) : zSt :=
  zLet (fn23 [] g0) fun p0 =>
  zLet p0.2.2 fun g1 =>
  if 1 ≤ p0.2.1 then
    zLet (g1 15 0 37) fun n17 =>
    zLet (g1 15 0 38) fun n18 =>
    zLet (rUp g1 15 0 46 n17) fun g2 =>
    zLet (rUp g2 15 0 47 n18) fun g3 =>
    zLet (rUp g3 15 0 48 0) fun g4 =>
    zLet (rUp g4 15 0 49 0) fun g5 =>
    zLet (rUp g5 15 0 50 ((-1))) fun g6 =>
    zLet (fn24 [40] g6) fun p6 =>
    zLet p6.2.2 fun g7 =>
    if 1 ≤ p6.2.1 then
      .inl (0, [1], g7)
    else
      .inr (0, 0, g7)
  else
    .inr (0, 0, g1)
noncomputable def en27 (g0 : rHp) (s : Nat × List Int × rHp) : zSt :=
  if s.1 = 0 then
    zLet s.2.2 fun g1 =>
    zLet (s.2.1.getD 0 0) fun n16 =>
    zLet (g0 15 0 34) fun n1 =>
    zLet (g1 15 0 48) fun n28 =>
    if n16 = 0 then
      zLet (fn24 [41] g1) fun p1 =>
      zLet p1.2.2 fun g2 =>
      if 1 ≤ p1.2.1 then
        .inr (0, 1, g2)
      else
        .inr (0, 0, g2)
    else
      zLet (fn7 [] g1) fun p1 =>
      zLet p1.2.2 fun g2 =>
      zLet (g2 15 0 35) fun n29 =>
      if n28 ≠ 4 then
        zLet (rUp g2 86 0 n28 n29) fun g3 =>
        zLet (fn6 [n29] g3) fun p3 =>
        zLet p3.2.2 fun g4 =>
        if 0 ≤ -n29 + n1 + (-1) then
          zLet (p3.2.1) fun n30 =>
          if n30 ≠ 35 then
            zLet (fn20 [0] g4) fun p4 =>
            zLet p4.2.2 fun g5 =>
            if 1 ≤ p4.2.1 then
              zLet (g5 15 0 39) fun n35 =>
              zLet (g5 15 0 40) fun n36 =>
              zLet (rUp g5 85 0 n28 n36) fun g6 =>
              zLet (rUp g6 87 0 n28 n35) fun g7 =>
              zLet (rUp g7 15 0 48 (n28 + 1)) fun g8 =>
              zLet (fn7 [] g8) fun p8 =>
              zLet p8.2.2 fun g9 =>
              zLet (g9 15 0 35) fun n39 =>
              zLet (fn6 [n39] g9) fun p9 =>
              zLet p9.2.2 fun g10 =>
              if 0 ≤ -n39 + n1 + (-1) then
                zLet (p9.2.1) fun n40 =>
                if n40 ≠ 44 then
                  .inl (0, [0], g10)
                else
                  zLet (rUp g10 15 0 35 (n39 + 1)) fun g11 =>
                  .inl (0, [1], g11)
              else
                .inl (0, [0], g10)
            else
              .inr (0, 0, g5)
          else
            zLet (fn26 [] g4) fun p4 =>
            zLet p4.2.2 fun g5 =>
            if 1 ≤ p4.2.1 then
              zLet (rUp g5 85 0 n28 3) fun g6 =>
              zLet (g5 15 0 39) fun n37 =>
              zLet (rUp g6 87 0 n28 n37) fun g7 =>
              zLet (rUp g7 15 0 48 (n28 + 1)) fun g8 =>
              zLet (fn7 [] g8) fun p8 =>
              zLet p8.2.2 fun g9 =>
              zLet (g9 15 0 35) fun n38 =>
              zLet (fn6 [n38] g9) fun p9 =>
              zLet p9.2.2 fun g10 =>
              if 0 ≤ -n38 + n1 + (-1) then
                zLet (p9.2.1) fun n39 =>
                if n39 ≠ 44 then
                  .inl (0, [0], g10)
                else
                  zLet (rUp g10 15 0 35 (n38 + 1)) fun g11 =>
                  .inl (0, [1], g11)
              else
                .inl (0, [0], g10)
            else
              .inr (0, 0, g5)
        else
          zLet (fn20 [0] g4) fun p4 =>
          zLet p4.2.2 fun g5 =>
          .inr (0, 0, g5)
      else
        zLet (fn8 [n29] g2) fun p2 =>
        zLet p2.2.2 fun g3 =>
        .inr (0, 0, g3)
  else .inr (0, 0, g0)
noncomputable def fn27 (x : List Int) (g : rHp) : zR := zGoo (en27 g) (dn27 x g)
noncomputable def sn27 : zSpc := fun a g o v g_q => (o, v, g_q) = fn27 [] g
noncomputable def pl27 : Nat → List Int → List Int
  | 0, vs => [vs.getD 16 0]
  | _, _ => []
noncomputable def jn27 : List Int → rHp → Nat → List Int → rHp → Prop := fun a g i vs g1 => fn27 [] g = zLoop (en27 g) (i, pl27 i vs, g1)
noncomputable def dn28 (x : List Int) (g0 : rHp) : zSt :=
  .inl (0, [0], g0)
noncomputable def en28 (g0 : rHp) (s : Nat × List Int × rHp) : zSt :=
  if s.1 = 0 then
    zLet s.2.2 fun g1 =>
    zLet (s.2.1.getD 0 0) fun n4 =>
    zLet (g0 15 0 58) fun n3 =>
    if n4 ≥ n3 then
      .inr (0, 1, g1)
    else
      zLet (g0 91 0 n4) fun n5 =>
      if n5 = 0 then
        zLet (g0 89 0 n4) fun n6 =>
        zLet (fn18 [n6] g1) fun p1 =>
        zLet p1.2.2 fun g2 =>
        if 1 ≤ p1.2.1 then
          .inl (0, [n4 + 1], g2)
        else
          zLet (g0 88 0 n4) fun n7 =>
          zLet (fn8 [n7] g2) fun p2 =>
          zLet p2.2.2 fun g3 =>
          .inr (0, 0, g3)
      else
        zLet (g0 90 0 n4) fun n6 =>
        zLet (g0 89 0 n4) fun n7 =>
        zLet (zF2 .ishr n6 n7) fun n8 =>
        zLet (zF2 .iand n8 1) fun n9 =>
        if n9 = 1 then
          .inl (0, [n4 + 1], g1)
        else
          zLet (g0 84 0 n7) fun n10 =>
          if n10 ≠ 1 then
            zLet (g0 88 0 n4) fun n11 =>
            zLet (fn8 [n11] g1) fun p1 =>
            zLet p1.2.2 fun g2 =>
            .inr (0, 0, g2)
          else
            .inl (0, [n4 + 1], g1)
  else .inr (0, 0, g0)
noncomputable def fn28 (x : List Int) (g : rHp) : zR := zGoo (en28 g) (dn28 x g)
noncomputable def sn28 : zSpc := fun a g o v g_q => (o, v, g_q) = fn28 [] g
noncomputable def pl28 : Nat → List Int → List Int
  | 0, vs => [vs.getD 4 0]
  | _, _ => []
noncomputable def jn28 : List Int → rHp → Nat → List Int → rHp → Prop := fun a g i vs g1 => fn28 [] g = zLoop (en28 g) (i, pl28 i vs, g1)
noncomputable def fn29 (x : List Int) (g0 : rHp) : zR :=
  zLet (x.getD 0 0) fun n0 =>
  zLet (g0 88 0 n0) fun n1 =>
  zLet (g0 89 0 n0) fun n2 =>
  zLet (g0 90 0 n0) fun n3 =>
  zLet (g0 91 0 n0) fun n4 =>
  zLet (g0 88 0 (n0 + (-1))) fun n5 =>
  zLet (rUp g0 88 0 n0 n5) fun g1 =>
  zLet (g0 89 0 (n0 + (-1))) fun n6 =>
  zLet (rUp g1 89 0 n0 n6) fun g2 =>
  zLet (g0 90 0 (n0 + (-1))) fun n7 =>
  zLet (rUp g2 90 0 n0 n7) fun g3 =>
  zLet (g0 91 0 (n0 + (-1))) fun n8 =>
  zLet (rUp g3 91 0 n0 n8) fun g4 =>
  zLet (rUp g4 88 0 (n0 + (-1)) n1) fun g5 =>
  zLet (rUp g5 89 0 (n0 + (-1)) n2) fun g6 =>
  zLet (rUp g6 90 0 (n0 + (-1)) n3) fun g7 =>
  zLet (rUp g7 91 0 (n0 + (-1)) n4) fun g8 =>
  (0, 0, g8)
noncomputable def sn29 : zSpc := fun a g o v g_q => (o, v, g_q) = fn29 [a.getD 0 0] g
noncomputable def dn30 (x : List Int) (g0 : rHp) : zSt :=
  .inl (0, [1], g0)
noncomputable def en30 (g0 : rHp) (s : Nat × List Int × rHp) : zSt :=
  if s.1 = 0 then
    zLet s.2.2 fun g1 =>
    zLet (s.2.1.getD 0 0) fun n1 =>
    zLet (g0 15 0 58) fun n0 =>
    if n1 ≥ n0 then
      .inr (0, 0, g1)
    else
      .inl (1, [n1, n1], g1)
  else if s.1 = 1 then
    zLet s.2.2 fun g1 =>
    zLet (s.2.1.getD 0 0) fun n1 =>
    zLet (s.2.1.getD 1 0) fun n2 =>
    if n1 ≤ 0 then
      .inl (0, [n2 + 1], g1)
    else
      zLet (g1 88 0 (n1 + (-1))) fun n3 =>
      zLet (g1 88 0 n1) fun n4 =>
      if n3 ≤ n4 then
        .inl (0, [n2 + 1], g1)
      else
        zLet (fn29 [n1] g1) fun p1 =>
        zLet p1.2.2 fun g2 =>
        .inl (1, [n1 + (-1), n2], g2)
  else .inr (0, 0, g0)
noncomputable def fn30 (x : List Int) (g : rHp) : zR := zGoo (en30 g) (dn30 x g)
noncomputable def sn30 : zSpc := fun a g o v g_q => (o, v, g_q) = fn30 [] g
noncomputable def pl30 : Nat → List Int → List Int
  | 0, vs => [vs.getD 1 0]
  | 1, vs => [vs.getD 1 0, vs.getD 2 0]
  | _, _ => []
noncomputable def jn30 : List Int → rHp → Nat → List Int → rHp → Prop := fun a g i vs g1 => fn30 [] g = zLoop (en30 g) (i, pl30 i vs, g1)
noncomputable def dn31 (x : List Int) (g0 : rHp) : zSt :=
  .inl (0, [0], g0)
noncomputable def en31 (g0 : rHp) (s : Nat × List Int × rHp) : zSt :=
  if s.1 = 0 then
    zLet s.2.2 fun g1 =>
    zLet (s.2.1.getD 0 0) fun n3 =>
    zLet (g0 15 0 48) fun n2 =>
    if n3 ≥ n2 then
      .inr (0, 1, g1)
    else
      zLet (g0 85 0 n3) fun n4 =>
      if n4 = 0 then
        .inl (0, [n3 + 1], g1)
      else
        zLet (g0 86 0 n3) fun n5 =>
        zLet (fn8 [n5] g1) fun p1 =>
        zLet p1.2.2 fun g2 =>
        .inr (0, 0, g2)
  else .inr (0, 0, g0)
noncomputable def fn31 (x : List Int) (g : rHp) : zR := zGoo (en31 g) (dn31 x g)
noncomputable def sn31 : zSpc := fun a g o v g_q => (o, v, g_q) = fn31 [] g
noncomputable def pl31 : Nat → List Int → List Int
  | 0, vs => [vs.getD 3 0]
  | _, _ => []
noncomputable def jn31 : List Int → rHp → Nat → List Int → rHp → Prop := fun a g i vs g1 => fn31 [] g = zLoop (en31 g) (i, pl31 i vs, g1)
noncomputable def fn32 (x : List Int) (g0 : rHp) : zR :=
  zLet (x.getD 0 0) fun n0 =>
  zLet (rUp g0 15 0 44 n0) fun g1 =>
  zLet (rUp g1 73 0 n0 0) fun g2 =>
  zLet (rUp g2 74 0 n0 0) fun g3 =>
  zLet (rUp g3 15 0 45 0) fun g4 =>
  zLet (rUp g4 15 0 58 0) fun g5 =>
  (0, 0, g5)
noncomputable def sn32 : zSpc := fun a g o v g_q => (o, v, g_q) = fn32 [a.getD 0 0] g
noncomputable def fn33 (x : List Int) (g0 : rHp) : zR :=
  zLet (g0 15 0 44) fun n0 =>
  zLet (g0 73 0 n0) fun n1 =>
  (0, n1 + 8 * n0, g0)
noncomputable def sn33 : zSpc := fun a g o v g_q => (o, v, g_q) = fn33 [] g
noncomputable def fn34 (x : List Int) (g0 : rHp) : zR :=
  zLet (x.getD 0 0) fun n0 =>
  zLet (g0 15 0 44) fun n5 =>
  zLet (g0 73 0 n5) fun n6 =>
  zLet (fn7 [] g0) fun p0 =>
  zLet p0.2.2 fun g1 =>
  zLet (g1 15 0 35) fun n14 =>
  zLet (fn20 [0] g1) fun p1 =>
  zLet p1.2.2 fun g2 =>
  if 1 ≤ p1.2.1 then
    zLet (g2 15 0 39) fun n19 =>
    zLet (g2 15 0 40) fun n20 =>
    if n20 ≠ 1 then
      zLet (fn33 [] g2) fun p2 =>
      zLet p2.2.2 fun g3 =>
      zLet (rUp g3 80 0 (4 * n6 + (32 * n5 + n0)) n20) fun g4 =>
      zLet (fn33 [] g4) fun p4 =>
      zLet p4.2.2 fun g5 =>
      zLet (rUp g5 81 0 (4 * n6 + (32 * n5 + n0)) n19) fun g6 =>
      (0, 1, g6)
    else
      zLet (fn19 [n19] g2) fun p2 =>
      zLet p2.2.2 fun g3 =>
      if 1 ≤ p2.2.1 then
        zLet (fn33 [] g3) fun p3 =>
        zLet p3.2.2 fun g4 =>
        zLet (rUp g4 80 0 (4 * n6 + (32 * n5 + n0)) n20) fun g5 =>
        zLet (fn33 [] g5) fun p5 =>
        zLet p5.2.2 fun g6 =>
        zLet (rUp g6 81 0 (4 * n6 + (32 * n5 + n0)) n19) fun g7 =>
        (0, 1, g7)
      else
        zLet (fn8 [n14] g3) fun p3 =>
        zLet p3.2.2 fun g4 =>
        (0, 0, g4)
  else
    (0, 0, g2)
noncomputable def sn34 : zSpc := fun a g o v g_q => (o, v, g_q) = fn34 [a.getD 0 0] g
noncomputable def fn35 (x : List Int) (g0 : rHp) : zR :=
  zLet (x.getD 0 0) fun n0 =>
  zLet (g0 15 0 34) fun n2 =>
  zLet (g0 15 0 44) fun n5 =>
  zLet (g0 73 0 n5) fun n6 =>
  zLet (g0 81 0 (4 * n6 + 32 * n5)) fun n8 =>
  zLet (fn33 [] g0) fun p0 =>
  zLet p0.2.2 fun g1 =>
  zLet (fn7 [] g1) fun p1 =>
  zLet p1.2.2 fun g2 =>
  zLet (g2 15 0 35) fun n14 =>
  zLet (fn6 [n14] g2) fun p2 =>
  zLet p2.2.2 fun g3 =>
  if 0 ≤ -n14 + n2 + (-1) then
    zLet (p2.2.1) fun n15 =>
    if n15 = 60 then
      zLet (rUp g3 15 0 35 (n14 + 1)) fun g4 =>
      zLet (rUp g4 77 0 (n6 + 8 * n5) 2) fun g5 =>
      zLet (fn6 [n14 + 1] g5) fun p5 =>
      zLet p5.2.2 fun g6 =>
      if 0 ≤ -n14 + n2 + (-2) then
        zLet (p5.2.1) fun n16 =>
        if n16 ≠ 62 then
          zLet (g0 80 0 (4 * n6 + 32 * n5)) fun n17 =>
          if n17 ≠ 1 then
            zLet (fn34 [1] g6) fun p6 =>
            zLet p6.2.2 fun g7 =>
            if 1 ≤ p6.2.1 then
              (0, 1, g7)
            else
              (0, 0, g7)
          else
            zLet (fn19 [n8] g6) fun p6 =>
            zLet p6.2.2 fun g7 =>
            if 1 ≤ p6.2.1 then
              zLet (fn34 [1] g7) fun p7 =>
              zLet p7.2.2 fun g8 =>
              if 1 ≤ p7.2.1 then
                (0, 1, g8)
              else
                (0, 0, g8)
            else
              zLet (fn8 [n0] g7) fun p7 =>
              zLet p7.2.2 fun g8 =>
              (0, 0, g8)
        else
          zLet (rUp g6 15 0 35 (n14 + 2)) fun g7 =>
          zLet (rUp g7 77 0 (n6 + 8 * n5) 4) fun g8 =>
          zLet (g0 80 0 (4 * n6 + 32 * n5)) fun n17 =>
          if n17 ≠ 1 then
            zLet (fn34 [1] g8) fun p8 =>
            zLet p8.2.2 fun g9 =>
            if 1 ≤ p8.2.1 then
              (0, 1, g9)
            else
              (0, 0, g9)
          else
            zLet (fn19 [n8] g8) fun p8 =>
            zLet p8.2.2 fun g9 =>
            if 1 ≤ p8.2.1 then
              zLet (fn34 [1] g9) fun p9 =>
              zLet p9.2.2 fun g10 =>
              if 1 ≤ p9.2.1 then
                (0, 1, g10)
              else
                (0, 0, g10)
            else
              zLet (fn8 [n0] g9) fun p9 =>
              zLet p9.2.2 fun g10 =>
              (0, 0, g10)
      else
        zLet (g0 80 0 (4 * n6 + 32 * n5)) fun n16 =>
        if n16 ≠ 1 then
          zLet (fn34 [1] g6) fun p6 =>
          zLet p6.2.2 fun g7 =>
          (0, 0, g7)
        else
          zLet (fn19 [n8] g6) fun p6 =>
          zLet p6.2.2 fun g7 =>
          if 1 ≤ p6.2.1 then
            zLet (fn34 [1] g7) fun p7 =>
            zLet p7.2.2 fun g8 =>
            (0, 0, g8)
          else
            zLet (fn8 [n0] g7) fun p7 =>
            zLet p7.2.2 fun g8 =>
            (0, 0, g8)
    else
      if n15 = 61 then
        zLet (rUp g3 15 0 35 (n14 + 1)) fun g4 =>
        zLet (rUp g4 77 0 (n6 + 8 * n5) 3) fun g5 =>
        zLet (g0 80 0 (4 * n6 + 32 * n5)) fun n16 =>
        if n16 ≠ 1 then
          zLet (fn34 [1] g5) fun p5 =>
          zLet p5.2.2 fun g6 =>
          if 1 ≤ p5.2.1 then
            (0, 1, g6)
          else
            (0, 0, g6)
        else
          zLet (fn19 [n8] g5) fun p5 =>
          zLet p5.2.2 fun g6 =>
          if 1 ≤ p5.2.1 then
            zLet (fn34 [1] g6) fun p6 =>
            zLet p6.2.2 fun g7 =>
            if 1 ≤ p6.2.1 then
              (0, 1, g7)
            else
              (0, 0, g7)
          else
            zLet (fn8 [n0] g6) fun p6 =>
            zLet p6.2.2 fun g7 =>
            (0, 0, g7)
      else
        zLet (fn8 [n14] g3) fun p3 =>
        zLet p3.2.2 fun g4 =>
        (0, 0, g4)
  else
    zLet (fn8 [n14] g3) fun p3 =>
    zLet p3.2.2 fun g4 =>
    (0, 0, g4)
noncomputable def sn35 : zSpc := fun a g o v g_q => (o, v, g_q) = fn35 [a.getD 0 0] g
noncomputable def dn36 (x : List Int) (g0 : rHp) : zSt :=
  zLet (x.getD 0 0) fun n0 =>
  zLet (x.getD 1 0) fun n1 =>
  zLet (g0 15 0 35) fun n2 =>
  zLet (fn33 [] g0) fun p0 =>
  zLet p0.2.2 fun g1 =>
  zLet (rUp g1 15 0 35 (n2 + 1)) fun g2 =>
  .inl (0, [n0, n1, 1, 0, 0], g2)
noncomputable def en36 (g0 : rHp) (s : Nat × List Int × rHp) : zSt :=
  if s.1 = 0 then
    zLet s.2.2 fun g1 =>
    zLet (s.2.1.getD 0 0) fun n0 =>
    zLet (s.2.1.getD 1 0) fun n1 =>
    zLet (s.2.1.getD 2 0) fun n17 =>
    zLet (s.2.1.getD 3 0) fun n18 =>
    zLet (s.2.1.getD 4 0) fun n19 =>
    zLet (g0 15 0 34) fun n3 =>
    zLet (g0 15 0 37) fun n7 =>
    zLet (g0 15 0 38) fun n8 =>
    zLet (g0 15 0 44) fun n9 =>
    zLet (g0 73 0 n9) fun n10 =>
    zLet (g0 15 0 14) fun n13 =>
    zLet (g0 15 0 45) fun n16 =>
    if n17 = 0 then
      zLet (fn24 [41] g1) fun p1 =>
      zLet p1.2.2 fun g2 =>
      if 1 ≤ p1.2.1 then
        zLet (fn21 [n7, n8, n19] g2) fun p2 =>
        zLet p2.2.2 fun g3 =>
        zLet (p2.2.1) fun n29 =>
        if n29 ≥ 0 then
          if n0 = 0 then
            zLet (rUp g3 77 0 (n10 + 8 * n9) 0) fun g4 =>
            zLet (rUp g4 78 0 (n10 + 8 * n9) n29) fun g5 =>
            zLet (rUp g5 79 0 (n10 + 8 * n9) n16) fun g6 =>
            zLet (zF2 .ior n16 n18) fun n30 =>
            zLet (rUp g6 15 0 45 n30) fun g7 =>
            .inr (0, 1, g7)
          else
            zLet (rUp g3 77 0 (n10 + 8 * n9) 1) fun g4 =>
            zLet (rUp g4 78 0 (n10 + 8 * n9) n29) fun g5 =>
            zLet (rUp g5 79 0 (n10 + 8 * n9) n16) fun g6 =>
            .inr (0, 1, g6)
        else
          if n1 = 0 then
            zLet (fn8 [n7] g3) fun p3 =>
            zLet p3.2.2 fun g4 =>
            .inr (0, 0, g4)
          else
            if n13 ≠ 20 then
              zLet (fn22 [n7, n8, n19] g3) fun p3 =>
              zLet p3.2.2 fun g4 =>
              if n0 = 0 then
                zLet (rUp g4 77 0 (n10 + 8 * n9) 0) fun g5 =>
                zLet (rUp g5 78 0 (n10 + 8 * n9) n13) fun g6 =>
                zLet (rUp g6 79 0 (n10 + 8 * n9) n16) fun g7 =>
                zLet (zF2 .ior n16 n18) fun n30 =>
                zLet (rUp g7 15 0 45 n30) fun g8 =>
                .inr (0, 1, g8)
              else
                zLet (rUp g4 77 0 (n10 + 8 * n9) 1) fun g5 =>
                zLet (rUp g5 78 0 (n10 + 8 * n9) n13) fun g6 =>
                zLet (rUp g6 79 0 (n10 + 8 * n9) n16) fun g7 =>
                .inr (0, 1, g7)
            else
              zLet (fn8 [n7] g3) fun p3 =>
              zLet p3.2.2 fun g4 =>
              .inr (0, 0, g4)
      else
        .inr (0, 0, g2)
    else
      zLet (fn7 [] g1) fun p1 =>
      zLet p1.2.2 fun g2 =>
      zLet (g2 15 0 35) fun n28 =>
      if n19 ≠ 4 then
        zLet (fn20 [1] g2) fun p2 =>
        zLet p2.2.2 fun g3 =>
        if 1 ≤ p2.2.1 then
          zLet (g3 15 0 39) fun n33 =>
          zLet (g3 15 0 40) fun n34 =>
          zLet (rUp g3 80 0 (n19 + (4 * n10 + 32 * n9)) n34) fun g4 =>
          zLet (rUp g4 81 0 (n19 + (4 * n10 + 32 * n9)) n33) fun g5 =>
          if n34 ≠ 1 then
            if n34 ≠ 1 then
              zLet (fn7 [] g5) fun p5 =>
              zLet p5.2.2 fun g6 =>
              zLet (g6 15 0 35) fun n37 =>
              zLet (fn6 [n37] g6) fun p6 =>
              zLet p6.2.2 fun g7 =>
              if 0 ≤ -n37 + n3 + (-1) then
                zLet (p6.2.1) fun n38 =>
                if n38 ≠ 44 then
                  .inl (0, [n0, n1, 0, n18, n19 + 1], g7)
                else
                  zLet (rUp g7 15 0 35 (n37 + 1)) fun g8 =>
                  .inl (0, [n0, n1, 1, n18, n19 + 1], g8)
              else
                .inl (0, [n0, n1, 0, n18, n19 + 1], g7)
            else
              zLet (zF1 .l2i n33) fun n37 =>
              zLet (zF2 .ishl 1 n37) fun n38 =>
              zLet (zF2 .ior n18 n38) fun n39 =>
              zLet (fn7 [] g5) fun p5 =>
              zLet p5.2.2 fun g6 =>
              zLet (g6 15 0 35) fun n40 =>
              zLet (fn6 [n40] g6) fun p6 =>
              zLet p6.2.2 fun g7 =>
              if 0 ≤ -n40 + n3 + (-1) then
                zLet (p6.2.1) fun n41 =>
                if n41 ≠ 44 then
                  .inl (0, [n0, n1, 0, n39, n19 + 1], g7)
                else
                  zLet (rUp g7 15 0 35 (n40 + 1)) fun g8 =>
                  .inl (0, [n0, n1, 1, n39, n19 + 1], g8)
              else
                .inl (0, [n0, n1, 0, n39, n19 + 1], g7)
          else
            if n0 = 0 then
              zLet (zF1 .l2i n33) fun n37 =>
              zLet (zF2 .ishl 1 n37) fun n38 =>
              zLet (zF2 .ior n18 n38) fun n39 =>
              zLet (fn7 [] g5) fun p5 =>
              zLet p5.2.2 fun g6 =>
              zLet (g6 15 0 35) fun n40 =>
              zLet (fn6 [n40] g6) fun p6 =>
              zLet p6.2.2 fun g7 =>
              if 0 ≤ -n40 + n3 + (-1) then
                zLet (p6.2.1) fun n41 =>
                if n41 ≠ 44 then
                  .inl (0, [n0, n1, 0, n39, n19 + 1], g7)
                else
                  zLet (rUp g7 15 0 35 (n40 + 1)) fun g8 =>
                  .inl (0, [n0, n1, 1, n39, n19 + 1], g8)
              else
                .inl (0, [n0, n1, 0, n39, n19 + 1], g7)
            else
              zLet (fn25 [n28, n33, 1] g5) fun p5 =>
              zLet p5.2.2 fun g6 =>
              zLet (zF2 .ishl 1 n33) fun n37 =>
              zLet (zF2 .ior n18 n37) fun n38 =>
              zLet (fn7 [] g6) fun p6 =>
              zLet p6.2.2 fun g7 =>
              zLet (g7 15 0 35) fun n39 =>
              zLet (fn6 [n39] g7) fun p7 =>
              zLet p7.2.2 fun g8 =>
              if 0 ≤ -n39 + n3 + (-1) then
                zLet (p7.2.1) fun n40 =>
                if n40 ≠ 44 then
                  .inl (0, [n0, n1, 0, n38, n19 + 1], g8)
                else
                  zLet (rUp g8 15 0 35 (n39 + 1)) fun g9 =>
                  .inl (0, [n0, n1, 1, n38, n19 + 1], g9)
              else
                .inl (0, [n0, n1, 0, n38, n19 + 1], g8)
        else
          .inr (0, 0, g3)
      else
        zLet (fn8 [n28] g2) fun p2 =>
        zLet p2.2.2 fun g3 =>
        .inr (0, 0, g3)
  else .inr (0, 0, g0)
noncomputable def fn36 (x : List Int) (g : rHp) : zR := zGoo (en36 g) (dn36 x g)
noncomputable def sn36 : zSpc := fun a g o v g_q => (o, v, g_q) = fn36 [a.getD 0 0, a.getD 1 0] g
noncomputable def pl36 : Nat → List Int → List Int
  | 0, vs => [vs.getD 0 0, vs.getD 1 0, vs.getD 17 0, vs.getD 18 0, vs.getD 19 0]
  | _, _ => []
noncomputable def jn36 : List Int → rHp → Nat → List Int → rHp → Prop := fun a g i vs g1 => fn36 [a.getD 0 0, a.getD 1 0] g = zLoop (en36 g) (i, pl36 i vs, g1)
noncomputable def fn37 (x : List Int) (g0 : rHp) : zR :=
  zLet (x.getD 0 0) fun n0 =>
  zLet (g0 15 0 34) fun n2 =>
  zLet (g0 15 0 44) fun n6 =>
  zLet (g0 73 0 n6) fun n7 =>
  zLet (g0 15 0 45) fun n15 =>
  zLet (fn7 [] g0) fun p0 =>
  zLet p0.2.2 fun g1 =>
  zLet (g1 15 0 35) fun n16 =>
  zLet (fn33 [] g1) fun p1 =>
  zLet p1.2.2 fun g2 =>
  zLet (rUp g2 79 0 (n7 + 8 * n6) n15) fun g3 =>
  zLet (fn6 [n16] g3) fun p3 =>
  zLet p3.2.2 fun g4 =>
  if 0 ≤ -n16 + n2 + (-1) then
    zLet (p3.2.1) fun n17 =>
    if n17 ≠ 33 then
      zLet (fn9 [n17] g4) fun p4 =>
      zLet p4.2.2 fun g5 =>
      if 1 ≤ p4.2.1 then
        zLet (fn12 [] g5) fun p5 =>
        zLet p5.2.2 fun g6 =>
        if 1 ≤ p5.2.1 then
          zLet (fn7 [] g6) fun p6 =>
          zLet p6.2.2 fun g7 =>
          zLet (g7 15 0 35) fun n20 =>
          zLet (fn6 [n20] g7) fun p7 =>
          zLet p7.2.2 fun g8 =>
          if 0 ≤ -n20 + n2 + (-1) then
            zLet (p7.2.1) fun n21 =>
            if n21 ≠ 40 then
              zLet (fn15 [] g8) fun p8 =>
              zLet p8.2.2 fun g9 =>
              zLet (p8.2.1) fun n22 =>
              zLet (rUp g9 15 0 39 n22) fun g10 =>
              zLet (rUp g10 15 0 40 0) fun g11 =>
              zLet (rUp g11 80 0 (4 * n7 + 32 * n6) 0) fun g12 =>
              zLet (rUp g12 81 0 (4 * n7 + 32 * n6) n22) fun g13 =>
              zLet (fn7 [] g13) fun p13 =>
              zLet p13.2.2 fun g14 =>
              zLet (fn35 [n16] g14) fun p14 =>
              zLet p14.2.2 fun g15 =>
              if 1 ≤ p14.2.1 then
                (0, 1, g15)
              else
                (0, 0, g15)
            else
              zLet (fn36 [0, n0] g8) fun p8 =>
              zLet p8.2.2 fun g9 =>
              if 1 ≤ p8.2.1 then
                (0, 1, g9)
              else
                (0, 0, g9)
          else
            zLet (fn15 [] g8) fun p8 =>
            zLet p8.2.2 fun g9 =>
            zLet (p8.2.1) fun n21 =>
            zLet (rUp g9 15 0 39 n21) fun g10 =>
            zLet (rUp g10 15 0 40 0) fun g11 =>
            zLet (rUp g11 80 0 (4 * n7 + 32 * n6) 0) fun g12 =>
            zLet (rUp g12 81 0 (4 * n7 + 32 * n6) n21) fun g13 =>
            zLet (fn7 [] g13) fun p13 =>
            zLet p13.2.2 fun g14 =>
            zLet (fn35 [n16] g14) fun p14 =>
            zLet p14.2.2 fun g15 =>
            (0, 0, g15)
        else
          (0, 0, g6)
      else
        zLet (fn20 [0] g5) fun p5 =>
        zLet p5.2.2 fun g6 =>
        if 1 ≤ p5.2.1 then
          zLet (g6 15 0 39) fun n22 =>
          zLet (g6 15 0 40) fun n23 =>
          zLet (rUp g6 80 0 (4 * n7 + 32 * n6) n23) fun g7 =>
          zLet (rUp g7 81 0 (4 * n7 + 32 * n6) n22) fun g8 =>
          zLet (fn7 [] g8) fun p8 =>
          zLet p8.2.2 fun g9 =>
          zLet (g9 15 0 35) fun n26 =>
          if n23 ≠ 1 then
            zLet (fn35 [n16] g9) fun p9 =>
            zLet p9.2.2 fun g10 =>
            if 1 ≤ p9.2.1 then
              (0, 1, g10)
            else
              (0, 0, g10)
          else
            zLet (fn6 [n26] g9) fun p9 =>
            zLet p9.2.2 fun g10 =>
            if 0 ≤ -n26 + n2 + (-1) then
              zLet (p9.2.1) fun n27 =>
              zLet (fn9 [n27] g10) fun p10 =>
              zLet p10.2.2 fun g11 =>
              if 1 ≤ p10.2.1 then
                zLet (fn12 [] g11) fun p11 =>
                zLet p11.2.2 fun g12 =>
                if 1 ≤ p11.2.1 then
                  zLet (fn13 [105, 115, 0, 0, 0] g12) fun p12 =>
                  zLet p12.2.2 fun g13 =>
                  if 1 ≤ p12.2.1 then
                    zLet (fn18 [n22] g13) fun p13 =>
                    zLet p13.2.2 fun g14 =>
                    if 1 ≤ p13.2.1 then
                      zLet (fn8 [n16] g14) fun p14 =>
                      zLet p14.2.2 fun g15 =>
                      (0, 0, g15)
                    else
                      zLet (fn34 [1] g14) fun p14 =>
                      zLet p14.2.2 fun g15 =>
                      if 1 ≤ p14.2.1 then
                        zLet (fn7 [] g15) fun p15 =>
                        zLet p15.2.2 fun g16 =>
                        zLet (g16 15 0 35) fun n36 =>
                        zLet (fn6 [n36] g16) fun p16 =>
                        zLet p16.2.2 fun g17 =>
                        if 0 ≤ -n36 + n2 + (-1) then
                          zLet (p16.2.1) fun n37 =>
                          if n37 = 43 then
                            zLet (rUp g17 15 0 35 (n36 + 1)) fun g18 =>
                            zLet (rUp g18 77 0 (n7 + 8 * n6) 5) fun g19 =>
                            zLet (fn34 [2] g19) fun p19 =>
                            zLet p19.2.2 fun g20 =>
                            if 1 ≤ p19.2.1 then
                              zLet (zF2 .ishl 1 n22) fun n44 =>
                              zLet (zF2 .ior n15 n44) fun n45 =>
                              zLet (rUp g20 15 0 45 n45) fun g21 =>
                              (0, 1, g21)
                            else
                              (0, 0, g20)
                          else
                            if n37 = 45 then
                              zLet (rUp g17 15 0 35 (n36 + 1)) fun g18 =>
                              zLet (rUp g18 77 0 (n7 + 8 * n6) 6) fun g19 =>
                              zLet (fn34 [2] g19) fun p19 =>
                              zLet p19.2.2 fun g20 =>
                              if 1 ≤ p19.2.1 then
                                zLet (zF2 .ishl 1 n22) fun n44 =>
                                zLet (zF2 .ior n15 n44) fun n45 =>
                                zLet (rUp g20 15 0 45 n45) fun g21 =>
                                (0, 1, g21)
                              else
                                (0, 0, g20)
                            else
                              if n37 = 42 then
                                zLet (rUp g17 15 0 35 (n36 + 1)) fun g18 =>
                                zLet (rUp g18 77 0 (n7 + 8 * n6) 7) fun g19 =>
                                zLet (fn34 [2] g19) fun p19 =>
                                zLet p19.2.2 fun g20 =>
                                if 1 ≤ p19.2.1 then
                                  zLet (zF2 .ishl 1 n22) fun n44 =>
                                  zLet (zF2 .ior n15 n44) fun n45 =>
                                  zLet (rUp g20 15 0 45 n45) fun g21 =>
                                  (0, 1, g21)
                                else
                                  (0, 0, g20)
                              else
                                zLet (fn8 [n36] g17) fun p17 =>
                                zLet p17.2.2 fun g18 =>
                                (0, 0, g18)
                        else
                          zLet (fn8 [n36] g17) fun p17 =>
                          zLet p17.2.2 fun g18 =>
                          (0, 0, g18)
                      else
                        (0, 0, g15)
                  else
                    zLet (fn8 [n26] g13) fun p13 =>
                    zLet p13.2.2 fun g14 =>
                    (0, 0, g14)
                else
                  (0, 0, g12)
              else
                zLet (fn35 [n16] g11) fun p11 =>
                zLet p11.2.2 fun g12 =>
                if 1 ≤ p11.2.1 then
                  (0, 1, g12)
                else
                  (0, 0, g12)
            else
              zLet (fn9 [(-1)] g10) fun p10 =>
              zLet p10.2.2 fun g11 =>
              zLet (fn35 [n16] g11) fun p11 =>
              zLet p11.2.2 fun g12 =>
              (0, 0, g12)
        else
          (0, 0, g6)
    else
      zLet (rUp g4 15 0 35 (n16 + 1)) fun g5 =>
      zLet (fn23 [] g5) fun p5 =>
      zLet p5.2.2 fun g6 =>
      if 1 ≤ p5.2.1 then
        zLet (fn7 [] g6) fun p6 =>
        zLet p6.2.2 fun g7 =>
        zLet (g7 15 0 35) fun n21 =>
        zLet (fn6 [n21] g7) fun p7 =>
        zLet p7.2.2 fun g8 =>
        if 0 ≤ -n21 + n2 + (-1) then
          zLet (p7.2.1) fun n22 =>
          if n22 ≠ 40 then
            zLet (fn8 [n21] g8) fun p8 =>
            zLet p8.2.2 fun g9 =>
            (0, 0, g9)
          else
            zLet (fn36 [1, n0] g8) fun p8 =>
            zLet p8.2.2 fun g9 =>
            if 1 ≤ p8.2.1 then
              (0, 1, g9)
            else
              (0, 0, g9)
        else
          zLet (fn8 [n21] g8) fun p8 =>
          zLet p8.2.2 fun g9 =>
          (0, 0, g9)
      else
        (0, 0, g6)
  else
    zLet (fn9 [(-1)] g4) fun p4 =>
    zLet p4.2.2 fun g5 =>
    zLet (fn20 [0] g5) fun p5 =>
    zLet p5.2.2 fun g6 =>
    (0, 0, g6)
noncomputable def sn37 : zSpc := fun a g o v g_q => (o, v, g_q) = fn37 [a.getD 0 0] g
noncomputable def dn38 (x : List Int) (g0 : rHp) : zSt :=
  zLet (x.getD 0 0) fun n0 =>
  .inl (0, [n0, 1], g0)
noncomputable def en38 (g0 : rHp) (s : Nat × List Int × rHp) : zSt :=
  if s.1 = 0 then
    zLet s.2.2 fun g1 =>
    zLet (s.2.1.getD 0 0) fun n0 =>
    zLet (s.2.1.getD 1 0) fun n15 =>
    zLet (g0 15 0 34) fun n2 =>
    zLet (g0 15 0 44) fun n7 =>
    zLet (g1 73 0 n7) fun n25 =>
    if n15 = 0 then
      .inr (0, 1, g1)
    else
      zLet (fn7 [] g1) fun p1 =>
      zLet p1.2.2 fun g2 =>
      zLet (g2 15 0 35) fun n26 =>
      if n25 ≠ 8 then
        zLet (fn37 [n0] g2) fun p2 =>
        zLet p2.2.2 fun g3 =>
        if 1 ≤ p2.2.1 then
          if 5 ≤ g3 77 0 (n25 + 8 * n7) then
            zLet (rUp g3 73 0 n7 (n25 + 1)) fun g4 =>
            zLet (fn7 [] g4) fun p4 =>
            zLet p4.2.2 fun g5 =>
            zLet (g5 15 0 35) fun n38 =>
            zLet (fn6 [n38] g5) fun p5 =>
            zLet p5.2.2 fun g6 =>
            if 0 ≤ -n38 + n2 + (-1) then
              zLet (p5.2.1) fun n39 =>
              if n39 ≠ 44 then
                .inl (0, [n0, 0], g6)
              else
                zLet (rUp g6 15 0 35 (n38 + 1)) fun g7 =>
                .inl (0, [n0, 1], g7)
            else
              .inl (0, [n0, 0], g6)
          else
            zLet (rUp g3 73 0 n7 (n25 + 1)) fun g4 =>
            zLet (fn7 [] g4) fun p4 =>
            zLet p4.2.2 fun g5 =>
            zLet (g5 15 0 35) fun n40 =>
            zLet (fn6 [n40] g5) fun p5 =>
            zLet p5.2.2 fun g6 =>
            if 0 ≤ -n40 + n2 + (-1) then
              zLet (p5.2.1) fun n41 =>
              if n41 ≠ 44 then
                .inl (0, [n0, 0], g6)
              else
                zLet (rUp g6 15 0 35 (n40 + 1)) fun g7 =>
                .inl (0, [n0, 1], g7)
            else
              .inl (0, [n0, 0], g6)
        else
          .inr (0, 0, g3)
      else
        zLet (fn8 [n26] g2) fun p2 =>
        zLet p2.2.2 fun g3 =>
        .inr (0, 0, g3)
  else .inr (0, 0, g0)
noncomputable def fn38 (x : List Int) (g : rHp) : zR := zGoo (en38 g) (dn38 x g)
noncomputable def sn38 : zSpc := fun a g o v g_q => (o, v, g_q) = fn38 [a.getD 0 0] g
noncomputable def pl38 : Nat → List Int → List Int
  | 0, vs => [vs.getD 0 0, vs.getD 15 0]
  | _, _ => []
noncomputable def jn38 : List Int → rHp → Nat → List Int → rHp → Prop := fun a g i vs g1 => fn38 [a.getD 0 0] g = zLoop (en38 g) (i, pl38 i vs, g1)
noncomputable def dn39 (x : List Int) (g0 : rHp) : zSt :=
  zLet (x.getD 0 0) fun n0 =>
  zLet (x.getD 1 0) fun n1 =>
  zLet (x.getD 2 0) fun n2 =>
  zLet (g0 15 0 14) fun n3 =>
  zLet (rUp g0 66 0 n3 n2) fun g1 =>
  zLet (rUp g1 65 0 n3 n1) fun g2 =>
  .inl (0, [n0, n1, n2, 0], g2)
noncomputable def en39 (g0 : rHp) (s : Nat × List Int × rHp) : zSt :=
  if s.1 = 0 then
    zLet s.2.2 fun g1 =>
    zLet (s.2.1.getD 0 0) fun n0 =>
    zLet (s.2.1.getD 1 0) fun n1 =>
    zLet (s.2.1.getD 2 0) fun n2 =>
    zLet (s.2.1.getD 3 0) fun n4 =>
    zLet (g0 15 0 14) fun n3 =>
    if n4 ≥ n1 then
      zLet (rUp g1 15 0 14 (n3 + 1)) fun g2 =>
      .inr (0, n3, g2)
    else
      zLet (g0 59 0 (n4 + n0)) fun n5 =>
      zLet (rUp g1 64 0 (n4 + 12 * n3) n5) fun g2 =>
      .inl (0, [n0, n1, n2, n4 + 1], g2)
  else .inr (0, 0, g0)
noncomputable def fn39 (x : List Int) (g : rHp) : zR := zGoo (en39 g) (dn39 x g)
noncomputable def sn39 : zSpc := fun a g o v g_q => (o, v, g_q) = fn39 [a.getD 0 0, a.getD 1 0, a.getD 2 0] g
noncomputable def pl39 : Nat → List Int → List Int
  | 0, vs => [vs.getD 0 0, vs.getD 1 0, vs.getD 2 0, vs.getD 4 0]
  | _, _ => []
noncomputable def jn39 : List Int → rHp → Nat → List Int → rHp → Prop := fun a g i vs g1 => fn39 [a.getD 0 0, a.getD 1 0, a.getD 2 0] g = zLoop (en39 g) (i, pl39 i vs, g1)
noncomputable def fn40 (x : List Int) (g0 : rHp) : zR :=
  zLet (x.getD 0 0) fun n0 =>
  zLet (g0 15 0 34) fun n2 =>
  zLet (g0 15 0 44) fun n7 =>
  zLet (g0 73 0 n7) fun n8 =>
  zLet (g0 81 0 (4 * n8 + 32 * n7)) fun n10 =>
  zLet (fn33 [] g0) fun p0 =>
  zLet p0.2.2 fun g1 =>
  zLet (fn7 [] g1) fun p1 =>
  zLet p1.2.2 fun g2 =>
  zLet (g2 15 0 35) fun n16 =>
  zLet (fn6 [n16] g2) fun p2 =>
  zLet p2.2.2 fun g3 =>
  if 0 ≤ -n16 + n2 + (-1) then
    zLet (p2.2.1) fun n17 =>
    if n17 = 60 then
      zLet (rUp g3 15 0 35 (n16 + 1)) fun g4 =>
      zLet (rUp g4 77 0 (n8 + 8 * n7) 2) fun g5 =>
      zLet (fn6 [n16 + 1] g5) fun p5 =>
      zLet p5.2.2 fun g6 =>
      if 0 ≤ -n16 + n2 + (-2) then
        zLet (p5.2.1) fun n18 =>
        if n18 ≠ 62 then
          zLet (g0 80 0 (4 * n8 + 32 * n7)) fun n19 =>
          if n19 ≠ 1 then
            zLet (fn34 [1] g6) fun p6 =>
            zLet p6.2.2 fun g7 =>
            if 1 ≤ p6.2.1 then
              (0, 1, g7)
            else
              (0, 0, g7)
          else
            zLet (fn19 [n10] g6) fun p6 =>
            zLet p6.2.2 fun g7 =>
            if 1 ≤ p6.2.1 then
              zLet (fn34 [1] g7) fun p7 =>
              zLet p7.2.2 fun g8 =>
              if 1 ≤ p7.2.1 then
                (0, 1, g8)
              else
                (0, 0, g8)
            else
              zLet (fn8 [n0] g7) fun p7 =>
              zLet p7.2.2 fun g8 =>
              (0, 0, g8)
        else
          zLet (rUp g6 15 0 35 (n16 + 2)) fun g7 =>
          zLet (rUp g7 77 0 (n8 + 8 * n7) 4) fun g8 =>
          zLet (g0 80 0 (4 * n8 + 32 * n7)) fun n19 =>
          if n19 ≠ 1 then
            zLet (fn34 [1] g8) fun p8 =>
            zLet p8.2.2 fun g9 =>
            if 1 ≤ p8.2.1 then
              (0, 1, g9)
            else
              (0, 0, g9)
          else
            zLet (fn19 [n10] g8) fun p8 =>
            zLet p8.2.2 fun g9 =>
            if 1 ≤ p8.2.1 then
              zLet (fn34 [1] g9) fun p9 =>
              zLet p9.2.2 fun g10 =>
              if 1 ≤ p9.2.1 then
                (0, 1, g10)
              else
                (0, 0, g10)
            else
              zLet (fn8 [n0] g9) fun p9 =>
              zLet p9.2.2 fun g10 =>
              (0, 0, g10)
      else
        zLet (g0 80 0 (4 * n8 + 32 * n7)) fun n18 =>
        if n18 ≠ 1 then
          zLet (fn34 [1] g6) fun p6 =>
          zLet p6.2.2 fun g7 =>
          (0, 0, g7)
        else
          zLet (fn19 [n10] g6) fun p6 =>
          zLet p6.2.2 fun g7 =>
          if 1 ≤ p6.2.1 then
            zLet (fn34 [1] g7) fun p7 =>
            zLet p7.2.2 fun g8 =>
            (0, 0, g8)
          else
            zLet (fn8 [n0] g7) fun p7 =>
            zLet p7.2.2 fun g8 =>
            (0, 0, g8)
    else
      if n17 = 61 then
        zLet (rUp g3 15 0 35 (n16 + 1)) fun g4 =>
        zLet (rUp g4 77 0 (n8 + 8 * n7) 3) fun g5 =>
        zLet (g0 80 0 (4 * n8 + 32 * n7)) fun n18 =>
        if n18 ≠ 1 then
          zLet (fn34 [1] g5) fun p5 =>
          zLet p5.2.2 fun g6 =>
          if 1 ≤ p5.2.1 then
            (0, 1, g6)
          else
            (0, 0, g6)
        else
          zLet (fn19 [n10] g5) fun p5 =>
          zLet p5.2.2 fun g6 =>
          if 1 ≤ p5.2.1 then
            zLet (fn34 [1] g6) fun p6 =>
            zLet p6.2.2 fun g7 =>
            if 1 ≤ p6.2.1 then
              (0, 1, g7)
            else
              (0, 0, g7)
          else
            zLet (fn8 [n0] g6) fun p6 =>
            zLet p6.2.2 fun g7 =>
            (0, 0, g7)
      else
        zLet (fn8 [n16] g3) fun p3 =>
        zLet p3.2.2 fun g4 =>
        (0, 0, g4)
  else
    zLet (fn8 [n16] g3) fun p3 =>
    zLet p3.2.2 fun g4 =>
    (0, 0, g4)
noncomputable def sn40 : zSpc := fun a g o v g_q => (o, v, g_q) = fn40 [a.getD 0 0] g
noncomputable def dn41 (x : List Int) (g0 : rHp) : zSt :=
  zLet (x.getD 0 0) fun n0 =>
  zLet (g0 15 0 35) fun n1 =>
  zLet (fn33 [] g0) fun p0 =>
  zLet p0.2.2 fun g1 =>
  zLet (rUp g1 15 0 35 (n1 + 1)) fun g2 =>
  .inl (0, [n0, 1, 0, 0], g2)
noncomputable def en41 (g0 : rHp) (s : Nat × List Int × rHp) : zSt :=
  if s.1 = 0 then
    zLet s.2.2 fun g1 =>
    zLet (s.2.1.getD 0 0) fun n0 =>
    zLet (s.2.1.getD 1 0) fun n19 =>
    zLet (s.2.1.getD 2 0) fun n20 =>
    zLet (s.2.1.getD 3 0) fun n21 =>
    zLet (g0 15 0 34) fun n2 =>
    zLet (g0 15 0 37) fun n6 =>
    zLet (g0 15 0 38) fun n7 =>
    zLet (g0 15 0 14) fun n8 =>
    zLet (g0 15 0 44) fun n11 =>
    zLet (g0 73 0 n11) fun n12 =>
    zLet (g0 15 0 45) fun n18 =>
    if n19 = 0 then
      zLet (fn24 [41] g1) fun p1 =>
      zLet p1.2.2 fun g2 =>
      if 1 ≤ p1.2.1 then
        zLet (fn21 [n6, n7, n21] g2) fun p2 =>
        zLet p2.2.2 fun g3 =>
        zLet (p2.2.1) fun n31 =>
        if n31 ≥ 0 then
          if n0 = 0 then
            zLet (rUp g3 77 0 (n12 + 8 * n11) 0) fun g4 =>
            zLet (rUp g4 78 0 (n12 + 8 * n11) n31) fun g5 =>
            zLet (rUp g5 79 0 (n12 + 8 * n11) n18) fun g6 =>
            zLet (zF2 .ior n18 n20) fun n32 =>
            zLet (rUp g6 15 0 45 n32) fun g7 =>
            .inr (0, 1, g7)
          else
            zLet (rUp g3 77 0 (n12 + 8 * n11) 1) fun g4 =>
            zLet (rUp g4 78 0 (n12 + 8 * n11) n31) fun g5 =>
            zLet (rUp g5 79 0 (n12 + 8 * n11) n18) fun g6 =>
            .inr (0, 1, g6)
        else
          if n8 ≠ 20 then
            zLet (fn39 [n6, n7, n21] g3) fun p3 =>
            zLet p3.2.2 fun g4 =>
            if n0 = 0 then
              zLet (rUp g4 77 0 (n12 + 8 * n11) 0) fun g5 =>
              zLet (rUp g5 78 0 (n12 + 8 * n11) n8) fun g6 =>
              zLet (rUp g6 79 0 (n12 + 8 * n11) n18) fun g7 =>
              zLet (zF2 .ior n18 n20) fun n32 =>
              zLet (rUp g7 15 0 45 n32) fun g8 =>
              .inr (0, 1, g8)
            else
              zLet (rUp g4 77 0 (n12 + 8 * n11) 1) fun g5 =>
              zLet (rUp g5 78 0 (n12 + 8 * n11) n8) fun g6 =>
              zLet (rUp g6 79 0 (n12 + 8 * n11) n18) fun g7 =>
              .inr (0, 1, g7)
          else
            zLet (fn8 [n6] g3) fun p3 =>
            zLet p3.2.2 fun g4 =>
            .inr (0, 0, g4)
      else
        .inr (0, 0, g2)
    else
      zLet (fn7 [] g1) fun p1 =>
      zLet p1.2.2 fun g2 =>
      zLet (g2 15 0 35) fun n30 =>
      if n21 ≠ 4 then
        zLet (fn20 [1] g2) fun p2 =>
        zLet p2.2.2 fun g3 =>
        if 1 ≤ p2.2.1 then
          zLet (g3 15 0 39) fun n35 =>
          zLet (g3 15 0 40) fun n36 =>
          zLet (rUp g3 80 0 (n21 + (4 * n12 + 32 * n11)) n36) fun g4 =>
          zLet (rUp g4 81 0 (n21 + (4 * n12 + 32 * n11)) n35) fun g5 =>
          if n36 ≠ 1 then
            if n36 ≠ 1 then
              zLet (fn7 [] g5) fun p5 =>
              zLet p5.2.2 fun g6 =>
              zLet (g6 15 0 35) fun n39 =>
              zLet (fn6 [n39] g6) fun p6 =>
              zLet p6.2.2 fun g7 =>
              if 0 ≤ -n39 + n2 + (-1) then
                zLet (p6.2.1) fun n40 =>
                if n40 ≠ 44 then
                  .inl (0, [n0, 0, n20, n21 + 1], g7)
                else
                  zLet (rUp g7 15 0 35 (n39 + 1)) fun g8 =>
                  .inl (0, [n0, 1, n20, n21 + 1], g8)
              else
                .inl (0, [n0, 0, n20, n21 + 1], g7)
            else
              zLet (zF1 .l2i n35) fun n39 =>
              zLet (zF2 .ishl 1 n39) fun n40 =>
              zLet (zF2 .ior n20 n40) fun n41 =>
              zLet (fn7 [] g5) fun p5 =>
              zLet p5.2.2 fun g6 =>
              zLet (g6 15 0 35) fun n42 =>
              zLet (fn6 [n42] g6) fun p6 =>
              zLet p6.2.2 fun g7 =>
              if 0 ≤ -n42 + n2 + (-1) then
                zLet (p6.2.1) fun n43 =>
                if n43 ≠ 44 then
                  .inl (0, [n0, 0, n41, n21 + 1], g7)
                else
                  zLet (rUp g7 15 0 35 (n42 + 1)) fun g8 =>
                  .inl (0, [n0, 1, n41, n21 + 1], g8)
              else
                .inl (0, [n0, 0, n41, n21 + 1], g7)
          else
            if n0 = 0 then
              zLet (zF1 .l2i n35) fun n39 =>
              zLet (zF2 .ishl 1 n39) fun n40 =>
              zLet (zF2 .ior n20 n40) fun n41 =>
              zLet (fn7 [] g5) fun p5 =>
              zLet p5.2.2 fun g6 =>
              zLet (g6 15 0 35) fun n42 =>
              zLet (fn6 [n42] g6) fun p6 =>
              zLet p6.2.2 fun g7 =>
              if 0 ≤ -n42 + n2 + (-1) then
                zLet (p6.2.1) fun n43 =>
                if n43 ≠ 44 then
                  .inl (0, [n0, 0, n41, n21 + 1], g7)
                else
                  zLet (rUp g7 15 0 35 (n42 + 1)) fun g8 =>
                  .inl (0, [n0, 1, n41, n21 + 1], g8)
              else
                .inl (0, [n0, 0, n41, n21 + 1], g7)
            else
              zLet (fn25 [n30, n35, 1] g5) fun p5 =>
              zLet p5.2.2 fun g6 =>
              zLet (zF2 .ishl 1 n35) fun n39 =>
              zLet (zF2 .ior n20 n39) fun n40 =>
              zLet (fn7 [] g6) fun p6 =>
              zLet p6.2.2 fun g7 =>
              zLet (g7 15 0 35) fun n41 =>
              zLet (fn6 [n41] g7) fun p7 =>
              zLet p7.2.2 fun g8 =>
              if 0 ≤ -n41 + n2 + (-1) then
                zLet (p7.2.1) fun n42 =>
                if n42 ≠ 44 then
                  .inl (0, [n0, 0, n40, n21 + 1], g8)
                else
                  zLet (rUp g8 15 0 35 (n41 + 1)) fun g9 =>
                  .inl (0, [n0, 1, n40, n21 + 1], g9)
              else
                .inl (0, [n0, 0, n40, n21 + 1], g8)
        else
          .inr (0, 0, g3)
      else
        zLet (fn8 [n30] g2) fun p2 =>
        zLet p2.2.2 fun g3 =>
        .inr (0, 0, g3)
  else .inr (0, 0, g0)
noncomputable def fn41 (x : List Int) (g : rHp) : zR := zGoo (en41 g) (dn41 x g)
noncomputable def sn41 : zSpc := fun a g o v g_q => (o, v, g_q) = fn41 [a.getD 0 0] g
noncomputable def pl41 : Nat → List Int → List Int
  | 0, vs => [vs.getD 0 0, vs.getD 19 0, vs.getD 20 0, vs.getD 21 0]
  | _, _ => []
noncomputable def jn41 : List Int → rHp → Nat → List Int → rHp → Prop := fun a g i vs g1 => fn41 [a.getD 0 0] g = zLoop (en41 g) (i, pl41 i vs, g1)
noncomputable def fn42 (x : List Int) (g0 : rHp) : zR :=
  zLet (g0 15 0 34) fun n1 =>
  zLet (g0 15 0 44) fun n8 =>
  zLet (g0 73 0 n8) fun n9 =>
  zLet (g0 15 0 45) fun n17 =>
  zLet (fn7 [] g0) fun p0 =>
  zLet p0.2.2 fun g1 =>
  zLet (g1 15 0 35) fun n18 =>
  zLet (fn33 [] g1) fun p1 =>
  zLet p1.2.2 fun g2 =>
  zLet (rUp g2 79 0 (n9 + 8 * n8) n17) fun g3 =>
  zLet (fn6 [n18] g3) fun p3 =>
  zLet p3.2.2 fun g4 =>
  if 0 ≤ -n18 + n1 + (-1) then
    zLet (p3.2.1) fun n19 =>
    if n19 ≠ 33 then
      zLet (fn9 [n19] g4) fun p4 =>
      zLet p4.2.2 fun g5 =>
      if 1 ≤ p4.2.1 then
        zLet (fn12 [] g5) fun p5 =>
        zLet p5.2.2 fun g6 =>
        if 1 ≤ p5.2.1 then
          zLet (fn7 [] g6) fun p6 =>
          zLet p6.2.2 fun g7 =>
          zLet (g7 15 0 35) fun n22 =>
          zLet (fn6 [n22] g7) fun p7 =>
          zLet p7.2.2 fun g8 =>
          if 0 ≤ -n22 + n1 + (-1) then
            zLet (p7.2.1) fun n23 =>
            if n23 ≠ 40 then
              zLet (fn15 [] g8) fun p8 =>
              zLet p8.2.2 fun g9 =>
              zLet (p8.2.1) fun n24 =>
              zLet (rUp g9 15 0 39 n24) fun g10 =>
              zLet (rUp g10 15 0 40 0) fun g11 =>
              zLet (rUp g11 80 0 (4 * n9 + 32 * n8) 0) fun g12 =>
              zLet (rUp g12 81 0 (4 * n9 + 32 * n8) n24) fun g13 =>
              zLet (fn7 [] g13) fun p13 =>
              zLet p13.2.2 fun g14 =>
              zLet (fn40 [n18] g14) fun p14 =>
              zLet p14.2.2 fun g15 =>
              if 1 ≤ p14.2.1 then
                (0, 1, g15)
              else
                (0, 0, g15)
            else
              zLet (fn41 [0] g8) fun p8 =>
              zLet p8.2.2 fun g9 =>
              if 1 ≤ p8.2.1 then
                (0, 1, g9)
              else
                (0, 0, g9)
          else
            zLet (fn15 [] g8) fun p8 =>
            zLet p8.2.2 fun g9 =>
            zLet (p8.2.1) fun n23 =>
            zLet (rUp g9 15 0 39 n23) fun g10 =>
            zLet (rUp g10 15 0 40 0) fun g11 =>
            zLet (rUp g11 80 0 (4 * n9 + 32 * n8) 0) fun g12 =>
            zLet (rUp g12 81 0 (4 * n9 + 32 * n8) n23) fun g13 =>
            zLet (fn7 [] g13) fun p13 =>
            zLet p13.2.2 fun g14 =>
            zLet (fn40 [n18] g14) fun p14 =>
            zLet p14.2.2 fun g15 =>
            (0, 0, g15)
        else
          (0, 0, g6)
      else
        zLet (fn20 [0] g5) fun p5 =>
        zLet p5.2.2 fun g6 =>
        if 1 ≤ p5.2.1 then
          zLet (g6 15 0 39) fun n24 =>
          zLet (g6 15 0 40) fun n25 =>
          zLet (rUp g6 80 0 (4 * n9 + 32 * n8) n25) fun g7 =>
          zLet (rUp g7 81 0 (4 * n9 + 32 * n8) n24) fun g8 =>
          zLet (fn7 [] g8) fun p8 =>
          zLet p8.2.2 fun g9 =>
          zLet (g9 15 0 35) fun n28 =>
          if n25 ≠ 1 then
            zLet (fn40 [n18] g9) fun p9 =>
            zLet p9.2.2 fun g10 =>
            if 1 ≤ p9.2.1 then
              (0, 1, g10)
            else
              (0, 0, g10)
          else
            zLet (fn6 [n28] g9) fun p9 =>
            zLet p9.2.2 fun g10 =>
            if 0 ≤ -n28 + n1 + (-1) then
              zLet (p9.2.1) fun n29 =>
              zLet (fn9 [n29] g10) fun p10 =>
              zLet p10.2.2 fun g11 =>
              if 1 ≤ p10.2.1 then
                zLet (fn12 [] g11) fun p11 =>
                zLet p11.2.2 fun g12 =>
                if 1 ≤ p11.2.1 then
                  zLet (fn13 [105, 115, 0, 0, 0] g12) fun p12 =>
                  zLet p12.2.2 fun g13 =>
                  if 1 ≤ p12.2.1 then
                    zLet (fn18 [n24] g13) fun p13 =>
                    zLet p13.2.2 fun g14 =>
                    if 1 ≤ p13.2.1 then
                      zLet (fn8 [n18] g14) fun p14 =>
                      zLet p14.2.2 fun g15 =>
                      (0, 0, g15)
                    else
                      zLet (fn34 [1] g14) fun p14 =>
                      zLet p14.2.2 fun g15 =>
                      if 1 ≤ p14.2.1 then
                        zLet (fn7 [] g15) fun p15 =>
                        zLet p15.2.2 fun g16 =>
                        zLet (g16 15 0 35) fun n38 =>
                        zLet (fn6 [n38] g16) fun p16 =>
                        zLet p16.2.2 fun g17 =>
                        if 0 ≤ -n38 + n1 + (-1) then
                          zLet (p16.2.1) fun n39 =>
                          if n39 = 43 then
                            zLet (rUp g17 15 0 35 (n38 + 1)) fun g18 =>
                            zLet (rUp g18 77 0 (n9 + 8 * n8) 5) fun g19 =>
                            zLet (fn34 [2] g19) fun p19 =>
                            zLet p19.2.2 fun g20 =>
                            if 1 ≤ p19.2.1 then
                              zLet (zF2 .ishl 1 n24) fun n46 =>
                              zLet (zF2 .ior n17 n46) fun n47 =>
                              zLet (rUp g20 15 0 45 n47) fun g21 =>
                              (0, 1, g21)
                            else
                              (0, 0, g20)
                          else
                            if n39 = 45 then
                              zLet (rUp g17 15 0 35 (n38 + 1)) fun g18 =>
                              zLet (rUp g18 77 0 (n9 + 8 * n8) 6) fun g19 =>
                              zLet (fn34 [2] g19) fun p19 =>
                              zLet p19.2.2 fun g20 =>
                              if 1 ≤ p19.2.1 then
                                zLet (zF2 .ishl 1 n24) fun n46 =>
                                zLet (zF2 .ior n17 n46) fun n47 =>
                                zLet (rUp g20 15 0 45 n47) fun g21 =>
                                (0, 1, g21)
                              else
                                (0, 0, g20)
                            else
                              if n39 = 42 then
                                zLet (rUp g17 15 0 35 (n38 + 1)) fun g18 =>
                                zLet (rUp g18 77 0 (n9 + 8 * n8) 7) fun g19 =>
                                zLet (fn34 [2] g19) fun p19 =>
                                zLet p19.2.2 fun g20 =>
                                if 1 ≤ p19.2.1 then
                                  zLet (zF2 .ishl 1 n24) fun n46 =>
                                  zLet (zF2 .ior n17 n46) fun n47 =>
                                  zLet (rUp g20 15 0 45 n47) fun g21 =>
                                  (0, 1, g21)
                                else
                                  (0, 0, g20)
                              else
                                zLet (fn8 [n38] g17) fun p17 =>
                                zLet p17.2.2 fun g18 =>
                                (0, 0, g18)
                        else
                          zLet (fn8 [n38] g17) fun p17 =>
                          zLet p17.2.2 fun g18 =>
                          (0, 0, g18)
                      else
                        (0, 0, g15)
                  else
                    zLet (fn8 [n28] g13) fun p13 =>
                    zLet p13.2.2 fun g14 =>
                    (0, 0, g14)
                else
                  (0, 0, g12)
              else
                zLet (fn40 [n18] g11) fun p11 =>
                zLet p11.2.2 fun g12 =>
                if 1 ≤ p11.2.1 then
                  (0, 1, g12)
                else
                  (0, 0, g12)
            else
              zLet (fn9 [(-1)] g10) fun p10 =>
              zLet p10.2.2 fun g11 =>
              zLet (fn40 [n18] g11) fun p11 =>
              zLet p11.2.2 fun g12 =>
              (0, 0, g12)
        else
          (0, 0, g6)
    else
      zLet (rUp g4 15 0 35 (n18 + 1)) fun g5 =>
      zLet (fn23 [] g5) fun p5 =>
      zLet p5.2.2 fun g6 =>
      if 1 ≤ p5.2.1 then
        zLet (fn7 [] g6) fun p6 =>
        zLet p6.2.2 fun g7 =>
        zLet (g7 15 0 35) fun n23 =>
        zLet (fn6 [n23] g7) fun p7 =>
        zLet p7.2.2 fun g8 =>
        if 0 ≤ -n23 + n1 + (-1) then
          zLet (p7.2.1) fun n24 =>
          if n24 ≠ 40 then
            zLet (fn8 [n23] g8) fun p8 =>
            zLet p8.2.2 fun g9 =>
            (0, 0, g9)
          else
            zLet (fn41 [1] g8) fun p8 =>
            zLet p8.2.2 fun g9 =>
            if 1 ≤ p8.2.1 then
              (0, 1, g9)
            else
              (0, 0, g9)
        else
          zLet (fn8 [n23] g8) fun p8 =>
          zLet p8.2.2 fun g9 =>
          (0, 0, g9)
      else
        (0, 0, g6)
  else
    zLet (fn9 [(-1)] g4) fun p4 =>
    zLet p4.2.2 fun g5 =>
    zLet (fn20 [0] g5) fun p5 =>
    zLet p5.2.2 fun g6 =>
    (0, 0, g6)
noncomputable def sn42 : zSpc := fun a g o v g_q => (o, v, g_q) = fn42 [] g
noncomputable def dn43 (x : List Int) (g0 : rHp) : zSt :=
  .inl (0, [1], g0)
noncomputable def en43 (g0 : rHp) (s : Nat × List Int × rHp) : zSt :=
  if s.1 = 0 then
    zLet s.2.2 fun g1 =>
    zLet (s.2.1.getD 0 0) fun n15 =>
    zLet (g0 15 0 34) fun n1 =>
    zLet (g0 15 0 44) fun n8 =>
    zLet (g1 73 0 n8) fun n25 =>
    if n15 = 0 then
      .inr (0, 1, g1)
    else
      zLet (fn7 [] g1) fun p1 =>
      zLet p1.2.2 fun g2 =>
      zLet (g2 15 0 35) fun n26 =>
      if n25 ≠ 8 then
        zLet (fn42 [] g2) fun p2 =>
        zLet p2.2.2 fun g3 =>
        if 1 ≤ p2.2.1 then
          if 2 ≤ g3 77 0 (n25 + 8 * n8) then
            if 5 ≤ g3 77 0 (n25 + 8 * n8) then
              zLet (rUp g3 73 0 n8 (n25 + 1)) fun g4 =>
              zLet (fn7 [] g4) fun p4 =>
              zLet p4.2.2 fun g5 =>
              zLet (g5 15 0 35) fun n39 =>
              zLet (fn6 [n39] g5) fun p5 =>
              zLet p5.2.2 fun g6 =>
              if 0 ≤ -n39 + n1 + (-1) then
                zLet (p5.2.1) fun n40 =>
                if n40 ≠ 44 then
                  .inl (0, [0], g6)
                else
                  zLet (rUp g6 15 0 35 (n39 + 1)) fun g7 =>
                  .inl (0, [1], g7)
              else
                .inl (0, [0], g6)
            else
              zLet (rUp g3 73 0 n8 (n25 + 1)) fun g4 =>
              zLet (fn7 [] g4) fun p4 =>
              zLet p4.2.2 fun g5 =>
              zLet (g5 15 0 35) fun n38 =>
              zLet (fn6 [n38] g5) fun p5 =>
              zLet p5.2.2 fun g6 =>
              if 0 ≤ -n38 + n1 + (-1) then
                zLet (p5.2.1) fun n39 =>
                if n39 ≠ 44 then
                  .inl (0, [0], g6)
                else
                  zLet (rUp g6 15 0 35 (n38 + 1)) fun g7 =>
                  .inl (0, [1], g7)
              else
                .inl (0, [0], g6)
          else
            zLet (rUp g3 73 0 n8 (n25 + 1)) fun g4 =>
            zLet (fn7 [] g4) fun p4 =>
            zLet p4.2.2 fun g5 =>
            zLet (g5 15 0 35) fun n42 =>
            zLet (fn6 [n42] g5) fun p5 =>
            zLet p5.2.2 fun g6 =>
            if 0 ≤ -n42 + n1 + (-1) then
              zLet (p5.2.1) fun n43 =>
              if n43 ≠ 44 then
                .inl (0, [0], g6)
              else
                zLet (rUp g6 15 0 35 (n42 + 1)) fun g7 =>
                .inl (0, [1], g7)
            else
              .inl (0, [0], g6)
        else
          .inr (0, 0, g3)
      else
        zLet (fn8 [n26] g2) fun p2 =>
        zLet p2.2.2 fun g3 =>
        .inr (0, 0, g3)
  else .inr (0, 0, g0)
noncomputable def fn43 (x : List Int) (g : rHp) : zR := zGoo (en43 g) (dn43 x g)
noncomputable def sn43 : zSpc := fun a g o v g_q => (o, v, g_q) = fn43 [] g
noncomputable def pl43 : Nat → List Int → List Int
  | 0, vs => [vs.getD 15 0]
  | _, _ => []
noncomputable def jn43 : List Int → rHp → Nat → List Int → rHp → Prop := fun a g i vs g1 => fn43 [] g = zLoop (en43 g) (i, pl43 i vs, g1)
noncomputable def dn44 (x : List Int) (g0 : rHp) : zSt :=
  zLet (g0 15 0 44) fun n0 =>
  zLet (g0 15 0 45) fun n2 =>
  zLet (rUp g0 75 0 n0 n2) fun g1 =>
  .inl (0, [8 * n0], g1)
noncomputable def en44 (g0 : rHp) (s : Nat × List Int × rHp) : zSt :=
  if s.1 = 0 then
    zLet s.2.2 fun g1 =>
    zLet (s.2.1.getD 0 0) fun n3 =>
    zLet (g0 15 0 44) fun n0 =>
    zLet (g0 73 0 n0) fun n1 =>
    zLet (fn33 [] g1) fun p1 =>
    zLet p1.2.2 fun g2 =>
    if n3 ≥ n1 + 8 * n0 then
      .inr (0, 0, g2)
    else
      .inl (1, [0, n3], g2)
  else if s.1 = 1 then
    zLet s.2.2 fun g1 =>
    zLet (s.2.1.getD 0 0) fun n3 =>
    zLet (s.2.1.getD 1 0) fun n4 =>
    if n3 ≥ 4 then
      .inl (0, [n4 + 1], g1)
    else
      zLet (g0 77 0 n4) fun n5 =>
      if n5 ≠ 1 then
        .inl (0, [n4 + 1], g1)
      else
        zLet (g0 78 0 n4) fun n6 =>
        zLet (g0 66 0 n6) fun n7 =>
        if n3 ≥ n7 then
          .inl (1, [n3 + 1, n4], g1)
        else
          zLet (g1 80 0 (4 * n4 + n3)) fun n8 =>
          if n8 ≠ 1 then
            .inl (1, [n3 + 1, n4], g1)
          else
            zLet (g0 79 0 n4) fun n9 =>
            zLet (g0 81 0 (4 * n4 + n3)) fun n10 =>
            zLet (zF1 .l2i n10) fun n11 =>
            zLet (zF2 .ishr n9 n11) fun n12 =>
            zLet (zF2 .iand n12 1) fun n13 =>
            if n13 ≠ 0 then
              .inl (1, [n3 + 1, n4], g1)
            else
              zLet (rUp g1 80 0 (4 * n4 + n3) 2) fun g2 =>
              .inl (1, [n3 + 1, n4], g2)
  else .inr (0, 0, g0)
noncomputable def fn44 (x : List Int) (g : rHp) : zR := zGoo (en44 g) (dn44 x g)
noncomputable def sn44 : zSpc := fun a g o v g_q => (o, v, g_q) = fn44 [] g
noncomputable def pl44 : Nat → List Int → List Int
  | 0, vs => [vs.getD 3 0]
  | 1, vs => [vs.getD 3 0, vs.getD 4 0]
  | _, _ => []
noncomputable def jn44 : List Int → rHp → Nat → List Int → rHp → Prop := fun a g i vs g1 => fn44 [] g = zLoop (en44 g) (i, pl44 i vs, g1)
noncomputable def dn45 (x : List Int) (g0 : rHp) : zSt :=
  zLet (x.getD 0 0) fun n0 =>
  zLet (x.getD 1 0) fun n1 =>
  .inl (0, [n0, n1, 0], g0)
noncomputable def en45 (g0 : rHp) (s : Nat × List Int × rHp) : zSt :=
  if s.1 = 0 then
    zLet s.2.2 fun g1 =>
    zLet (s.2.1.getD 0 0) fun n0 =>
    zLet (s.2.1.getD 1 0) fun n1 =>
    zLet (s.2.1.getD 2 0) fun n3 =>
    if n3 ≥ n1 then
      .inr (0, (-1), g1)
    else
      zLet (g0 67 0 n3) fun n4 =>
      if n4 ≠ n0 then
        .inl (1, [n0, n1, 0, 0, n3], g1)
      else
        .inl (1, [n0, n1, 0, 1, n3], g1)
  else if s.1 = 1 then
    zLet s.2.2 fun g1 =>
    zLet (s.2.1.getD 0 0) fun n0 =>
    zLet (s.2.1.getD 1 0) fun n1 =>
    zLet (s.2.1.getD 2 0) fun n3 =>
    zLet (s.2.1.getD 3 0) fun n4 =>
    zLet (s.2.1.getD 4 0) fun n5 =>
    zLet (g0 15 0 48) fun n2 =>
    if n3 ≥ n2 then
      if n4 = 0 then
        .inl (0, [n0, n1, n5 + 1], g1)
      else
        .inr (0, n5, g1)
    else
      if n4 = 0 then
        .inl (0, [n0, n1, n5 + 1], g1)
      else
        zLet (g0 68 0 (4 * n5 + n3)) fun n6 =>
        zLet (g0 87 0 n3) fun n7 =>
        if n6 ≠ n7 then
          .inl (1, [n0, n1, n3 + 1, 0, n5], g1)
        else
          .inl (1, [n0, n1, n3 + 1, 1, n5], g1)
  else .inr (0, 0, g0)
noncomputable def fn45 (x : List Int) (g : rHp) : zR := zGoo (en45 g) (dn45 x g)
noncomputable def sn45 : zSpc := fun a g o v g_q => (o, v, g_q) = fn45 [a.getD 0 0, a.getD 1 0] g
noncomputable def pl45 : Nat → List Int → List Int
  | 0, vs => [vs.getD 0 0, vs.getD 1 0, vs.getD 3 0]
  | 1, vs => [vs.getD 0 0, vs.getD 1 0, vs.getD 3 0, vs.getD 4 0, vs.getD 5 0]
  | _, _ => []
noncomputable def jn45 : List Int → rHp → Nat → List Int → rHp → Prop := fun a g i vs g1 => fn45 [a.getD 0 0, a.getD 1 0] g = zLoop (en45 g) (i, pl45 i vs, g1)
noncomputable def dn46 (x : List Int) (g0 : rHp) : zSt :=
  zLet (x.getD 0 0) fun n0 =>
  zLet (x.getD 1 0) fun n1 =>
  .inl (0, [n0, n1, 0], g0)
noncomputable def en46 (g0 : rHp) (s : Nat × List Int × rHp) : zSt :=
  if s.1 = 0 then
    zLet s.2.2 fun g1 =>
    zLet (s.2.1.getD 0 0) fun n0 =>
    zLet (s.2.1.getD 1 0) fun n1 =>
    zLet (s.2.1.getD 2 0) fun n6 =>
    if n6 ≥ n1 then
      .inr (0, (-1), g1)
    else
      .inl (1, [n0, n1, n6], g1)
  else if s.1 = 1 then
    zLet s.2.2 fun g1 =>
    zLet (s.2.1.getD 0 0) fun n0 =>
    zLet (s.2.1.getD 1 0) fun n1 =>
    zLet (s.2.1.getD 2 0) fun n6 =>
    .inl (0, [n0, n1, n6 + 1], g1)
  else .inr (0, 0, g0)
noncomputable def fn46 (x : List Int) (g : rHp) : zR := zGoo (en46 g) (dn46 x g)
noncomputable def sn46 : zSpc := fun a g o v g_q => (o, v, g_q) = fn46 [a.getD 0 0, a.getD 1 0] g
noncomputable def pl46 : Nat → List Int → List Int
  | 0, vs => [vs.getD 0 0, vs.getD 1 0, vs.getD 6 0]
  | 1, vs => [vs.getD 0 0, vs.getD 1 0, vs.getD 6 0]
  | _, _ => []
noncomputable def jn46 : List Int → rHp → Nat → List Int → rHp → Prop := fun a g i vs g1 => fn46 [a.getD 0 0, a.getD 1 0] g = zLoop (en46 g) (i, pl46 i vs, g1)
noncomputable def fn47 (x : List Int) (g0 : rHp) : zR :=
  zLet (x.getD 0 0) fun n0 =>
  zLet (rUp g0 15 0 44 n0) fun g1 =>
  zLet (rUp g1 73 0 n0 0) fun g2 =>
  zLet (rUp g2 74 0 n0 0) fun g3 =>
  zLet (rUp g3 15 0 45 0) fun g4 =>
  zLet (rUp g4 15 0 58 0) fun g5 =>
  (0, 0, g5)
noncomputable def sn47 : zSpc := fun a g o v g_q => (o, v, g_q) = fn47 [a.getD 0 0] g
noncomputable def fn48 (x : List Int) (g0 : rHp) : zR :=
  zLet (rUp g0 15 0 44 61) fun g1 =>
  zLet (rUp g1 73 0 61 0) fun g2 =>
  zLet (rUp g2 74 0 61 0) fun g3 =>
  zLet (rUp g3 15 0 45 0) fun g4 =>
  zLet (rUp g4 15 0 58 0) fun g5 =>
  (0, 0, g5)
noncomputable def sn48 : zSpc := fun a g o v g_q => (o, v, g_q) = fn48 [] g
noncomputable def dn49 (x : List Int) (g0 : rHp) : zSt :=
  zLet (g0 15 0 32) fun n4 =>
  zLet (g0 15 0 33) fun n5 =>
  zLet (fn47 [n5 + n4] g0) fun p0 =>
  zLet p0.2.2 fun g1 =>
  zLet (fn27 [] g1) fun p1 =>
  zLet p1.2.2 fun g2 =>
  if 1 ≤ p1.2.1 then
    .inl (0, [0], g2)
  else
    .inr (0, 0, g2)
noncomputable def en49 (g0 : rHp) (s : Nat × List Int × rHp) : zSt :=
  if s.1 = 0 then
    zLet s.2.2 fun g1 =>
    zLet (s.2.1.getD 0 0) fun n23 =>
    zLet (g0 15 0 34) fun n1 =>
    zLet (g0 15 0 32) fun n4 =>
    zLet (g0 15 0 33) fun n5 =>
    zLet (g0 15 0 17) fun n6 =>
    zLet (g0 15 0 18) fun n7 =>
    zLet (g0 15 0 14) fun n8 =>
    zLet (g1 15 0 44) fun n28 =>
    zLet (g1 15 0 49) fun n29 =>
    zLet (g1 15 0 50) fun n30 =>
    zLet (g1 15 0 46) fun n35 =>
    zLet (g1 15 0 47) fun n36 =>
    zLet (g1 15 0 48) fun n37 =>
    if n23 ≥ n37 then
      zLet (fn21 [n35, n36, n37] g1) fun p1 =>
      zLet p1.2.2 fun g2 =>
      zLet (p1.2.1) fun n39 =>
      if n39 ≥ 0 then
        zLet (fn7 [] g2) fun p2 =>
        zLet p2.2.2 fun g3 =>
        zLet (g3 15 0 35) fun n40 =>
        zLet (fn6 [n40] g3) fun p3 =>
        zLet p3.2.2 fun g4 =>
        if 0 ≤ -n40 + n1 + (-1) then
          zLet (p3.2.1) fun n41 =>
          if n41 ≠ 46 then
            zLet (fn6 [n40] g4) fun p4 =>
            zLet p4.2.2 fun g5 =>
            zLet (p4.2.1) fun n42 =>
            if n42 = 58 then
              zLet (fn6 [n40 + 1] g5) fun p5 =>
              zLet p5.2.2 fun g6 =>
              if 0 ≤ -n40 + n1 + (-2) then
                zLet (p5.2.1) fun n43 =>
                if n43 = 45 then
                  zLet (rUp g6 15 0 35 (n40 + 2)) fun g7 =>
                  if n5 + n4 ≠ 60 then
                    zLet (rUp g7 69 0 n28 n39) fun g8 =>
                    zLet (rUp g8 71 0 n28 n29) fun g9 =>
                    zLet (rUp g9 72 0 n28 n30) fun g10 =>
                    .inl (1, [0, n35, n39], g10)
                  else
                    zLet (fn8 [n35] g7) fun p7 =>
                    zLet p7.2.2 fun g8 =>
                    .inr (0, 0, g8)
                else
                  zLet (fn8 [n40 + 1] g6) fun p6 =>
                  zLet p6.2.2 fun g7 =>
                  .inr (0, 0, g7)
              else
                zLet (fn8 [n40 + 1] g6) fun p6 =>
                zLet p6.2.2 fun g7 =>
                .inr (0, 0, g7)
            else
              zLet (fn8 [n40] g5) fun p5 =>
              zLet p5.2.2 fun g6 =>
              .inr (0, 0, g6)
          else
            zLet (fn31 [] g4) fun p4 =>
            zLet p4.2.2 fun g5 =>
            if 1 ≤ p4.2.1 then
              zLet (rUp g5 15 0 35 (n40 + 1)) fun g6 =>
              zLet (fn45 [n39, n7 + n6] g6) fun p6 =>
              zLet p6.2.2 fun g7 =>
              zLet (p6.2.1) fun n42 =>
              if n42 < 0 then
                if n7 + n6 ≠ 400 then
                  zLet (rUp g7 67 0 (n7 + n6) n39) fun g8 =>
                  if 0 ≥ n37 then
                    zLet (rUp g8 68 0 (4 * n7 + 4 * n6) 0) fun g9 =>
                    zLet (rUp g9 68 0 (4 * n7 + 4 * n6 + 1) 0) fun g10 =>
                    zLet (rUp g10 68 0 (4 * n7 + 4 * n6 + 2) 0) fun g11 =>
                    zLet (rUp g11 68 0 (4 * n7 + 4 * n6 + 3) 0) fun g12 =>
                    zLet (rUp g12 15 0 18 (n7 + 1)) fun g13 =>
                    .inr (0, 1, g13)
                  else
                    zLet (g1 87 0 0) fun n43 =>
                    zLet (rUp g8 68 0 (4 * n7 + 4 * n6) n43) fun g9 =>
                    if 1 ≥ n37 then
                      zLet (rUp g9 68 0 (4 * n7 + 4 * n6 + 1) 0) fun g10 =>
                      zLet (rUp g10 68 0 (4 * n7 + 4 * n6 + 2) 0) fun g11 =>
                      zLet (rUp g11 68 0 (4 * n7 + 4 * n6 + 3) 0) fun g12 =>
                      zLet (rUp g12 15 0 18 (n7 + 1)) fun g13 =>
                      .inr (0, 1, g13)
                    else
                      zLet (g1 87 0 1) fun n44 =>
                      zLet (rUp g9 68 0 (4 * n7 + 4 * n6 + 1) n44) fun g10 =>
                      if 2 ≥ n37 then
                        zLet (rUp g10 68 0 (4 * n7 + 4 * n6 + 2) 0) fun g11 =>
                        zLet (rUp g11 68 0 (4 * n7 + 4 * n6 + 3) 0) fun g12 =>
                        zLet (rUp g12 15 0 18 (n7 + 1)) fun g13 =>
                        .inr (0, 1, g13)
                      else
                        zLet (g1 87 0 2) fun n45 =>
                        zLet (rUp g10 68 0 (4 * n7 + 4 * n6 + 2) n45) fun g11 =>
                        if 3 ≥ n37 then
                          zLet (rUp g11 68 0 (4 * n7 + 4 * n6 + 3) 0) fun g12 =>
                          zLet (rUp g12 15 0 18 (n7 + 1)) fun g13 =>
                          .inr (0, 1, g13)
                        else
                          zLet (g1 87 0 3) fun n46 =>
                          zLet (rUp g11 68 0 (4 * n7 + 4 * n6 + 3) n46) fun g12 =>
                          zLet (rUp g12 15 0 18 (n7 + 1)) fun g13 =>
                          .inr (0, 1, g13)
                else
                  zLet (fn8 [n35] g7) fun p7 =>
                  zLet p7.2.2 fun g8 =>
                  .inr (0, 0, g8)
              else
                .inr (0, 1, g7)
            else
              .inr (0, 0, g5)
        else
          zLet (fn6 [n40] g4) fun p4 =>
          zLet p4.2.2 fun g5 =>
          zLet (fn8 [n40] g5) fun p5 =>
          zLet p5.2.2 fun g6 =>
          .inr (0, 0, g6)
      else
        if n8 ≠ 20 then
          zLet (fn39 [n35, n36, n37] g2) fun p2 =>
          zLet p2.2.2 fun g3 =>
          zLet (fn7 [] g3) fun p3 =>
          zLet p3.2.2 fun g4 =>
          zLet (g4 15 0 35) fun n40 =>
          zLet (fn6 [n40] g4) fun p4 =>
          zLet p4.2.2 fun g5 =>
          if 0 ≤ -n40 + n1 + (-1) then
            zLet (p4.2.1) fun n41 =>
            if n41 ≠ 46 then
              zLet (fn6 [n40] g5) fun p5 =>
              zLet p5.2.2 fun g6 =>
              zLet (p5.2.1) fun n42 =>
              if n42 = 58 then
                zLet (fn6 [n40 + 1] g6) fun p6 =>
                zLet p6.2.2 fun g7 =>
                if 0 ≤ -n40 + n1 + (-2) then
                  zLet (p6.2.1) fun n43 =>
                  if n43 = 45 then
                    zLet (rUp g7 15 0 35 (n40 + 2)) fun g8 =>
                    if n5 + n4 ≠ 60 then
                      zLet (rUp g8 69 0 n28 n8) fun g9 =>
                      zLet (rUp g9 71 0 n28 n29) fun g10 =>
                      zLet (rUp g10 72 0 n28 n30) fun g11 =>
                      .inl (1, [0, n35, n8], g11)
                    else
                      zLet (fn8 [n35] g8) fun p8 =>
                      zLet p8.2.2 fun g9 =>
                      .inr (0, 0, g9)
                  else
                    zLet (fn8 [n40 + 1] g7) fun p7 =>
                    zLet p7.2.2 fun g8 =>
                    .inr (0, 0, g8)
                else
                  zLet (fn8 [n40 + 1] g7) fun p7 =>
                  zLet p7.2.2 fun g8 =>
                  .inr (0, 0, g8)
              else
                zLet (fn8 [n40] g6) fun p6 =>
                zLet p6.2.2 fun g7 =>
                .inr (0, 0, g7)
            else
              zLet (fn31 [] g5) fun p5 =>
              zLet p5.2.2 fun g6 =>
              if 1 ≤ p5.2.1 then
                zLet (rUp g6 15 0 35 (n40 + 1)) fun g7 =>
                zLet (fn46 [n8, n7 + n6] g7) fun p7 =>
                zLet p7.2.2 fun g8 =>
                if n7 + n6 ≠ 400 then
                  zLet (rUp g8 67 0 (n7 + n6) n8) fun g9 =>
                  if 0 ≥ n37 then
                    zLet (rUp g9 68 0 (4 * n7 + 4 * n6) 0) fun g10 =>
                    zLet (rUp g10 68 0 (4 * n7 + 4 * n6 + 1) 0) fun g11 =>
                    zLet (rUp g11 68 0 (4 * n7 + 4 * n6 + 2) 0) fun g12 =>
                    zLet (rUp g12 68 0 (4 * n7 + 4 * n6 + 3) 0) fun g13 =>
                    zLet (rUp g13 15 0 18 (n7 + 1)) fun g14 =>
                    .inr (0, 1, g14)
                  else
                    zLet (g1 87 0 0) fun n42 =>
                    zLet (rUp g9 68 0 (4 * n7 + 4 * n6) n42) fun g10 =>
                    if 1 ≥ n37 then
                      zLet (rUp g10 68 0 (4 * n7 + 4 * n6 + 1) 0) fun g11 =>
                      zLet (rUp g11 68 0 (4 * n7 + 4 * n6 + 2) 0) fun g12 =>
                      zLet (rUp g12 68 0 (4 * n7 + 4 * n6 + 3) 0) fun g13 =>
                      zLet (rUp g13 15 0 18 (n7 + 1)) fun g14 =>
                      .inr (0, 1, g14)
                    else
                      zLet (g1 87 0 1) fun n43 =>
                      zLet (rUp g10 68 0 (4 * n7 + 4 * n6 + 1) n43) fun g11 =>
                      if 2 ≥ n37 then
                        zLet (rUp g11 68 0 (4 * n7 + 4 * n6 + 2) 0) fun g12 =>
                        zLet (rUp g12 68 0 (4 * n7 + 4 * n6 + 3) 0) fun g13 =>
                        zLet (rUp g13 15 0 18 (n7 + 1)) fun g14 =>
                        .inr (0, 1, g14)
                      else
                        zLet (g1 87 0 2) fun n44 =>
                        zLet (rUp g11 68 0 (4 * n7 + 4 * n6 + 2) n44) fun g12 =>
                        if 3 ≥ n37 then
                          zLet (rUp g12 68 0 (4 * n7 + 4 * n6 + 3) 0) fun g13 =>
                          zLet (rUp g13 15 0 18 (n7 + 1)) fun g14 =>
                          .inr (0, 1, g14)
                        else
                          zLet (g1 87 0 3) fun n45 =>
                          zLet (rUp g12 68 0 (4 * n7 + 4 * n6 + 3) n45) fun g13 =>
                          zLet (rUp g13 15 0 18 (n7 + 1)) fun g14 =>
                          .inr (0, 1, g14)
                else
                  zLet (fn8 [n35] g8) fun p8 =>
                  zLet p8.2.2 fun g9 =>
                  .inr (0, 0, g9)
              else
                .inr (0, 0, g6)
          else
            zLet (fn6 [n40] g5) fun p5 =>
            zLet p5.2.2 fun g6 =>
            zLet (fn8 [n40] g6) fun p6 =>
            zLet p6.2.2 fun g7 =>
            .inr (0, 0, g7)
        else
          zLet (fn8 [n35] g2) fun p2 =>
          zLet p2.2.2 fun g3 =>
          .inr (0, 0, g3)
    else
      zLet (g1 85 0 n23) fun n39 =>
      if n39 ≠ 1 then
        .inl (0, [n23 + 1], g1)
      else
        zLet (g1 86 0 n23) fun n40 =>
        zLet (g1 87 0 n23) fun n41 =>
        zLet (fn25 [n40, n41, 0] g1) fun p1 =>
        zLet p1.2.2 fun g2 =>
        .inl (0, [n23 + 1], g2)
  else if s.1 = 1 then
    zLet s.2.2 fun g1 =>
    zLet (s.2.1.getD 0 0) fun n23 =>
    zLet (s.2.1.getD 1 0) fun n24 =>
    zLet (s.2.1.getD 2 0) fun n25 =>
    zLet (g0 15 0 34) fun n1 =>
    zLet (g0 15 0 33) fun n5 =>
    zLet (g1 15 0 44) fun n31 =>
    zLet (g1 15 0 48) fun n40 =>
    if n23 ≥ n40 then
      zLet (fn43 [] g1) fun p1 =>
      zLet p1.2.2 fun g2 =>
      if 1 ≤ p1.2.1 then
        zLet (fn7 [] g2) fun p2 =>
        zLet p2.2.2 fun g3 =>
        zLet (g3 15 0 35) fun n53 =>
        zLet (fn6 [n53] g3) fun p3 =>
        zLet p3.2.2 fun g4 =>
        if 0 ≤ -n53 + n1 + (-1) then
          zLet (p3.2.1) fun n54 =>
          if n54 = 46 then
            zLet (fn30 [] g4) fun p4 =>
            zLet p4.2.2 fun g5 =>
            zLet (fn28 [] g5) fun p5 =>
            zLet p5.2.2 fun g6 =>
            if 1 ≤ p5.2.1 then
              zLet (rUp g6 15 0 35 (n53 + 1)) fun g7 =>
              zLet (fn44 [] g7) fun p7 =>
              zLet p7.2.2 fun g8 =>
              zLet (rUp g8 15 0 33 (n5 + 1)) fun g9 =>
              .inr (0, 1, g9)
            else
              .inr (0, 0, g6)
          else
            zLet (fn8 [n53] g4) fun p4 =>
            zLet p4.2.2 fun g5 =>
            .inr (0, 0, g5)
        else
          zLet (fn8 [n53] g4) fun p4 =>
          zLet p4.2.2 fun g5 =>
          .inr (0, 0, g5)
      else
        .inr (0, 0, g2)
    else
      zLet (g1 85 0 n23) fun n43 =>
      zLet (rUp g1 70 0 (4 * n31 + n23) n43) fun g2 =>
      zLet (g1 87 0 n23) fun n44 =>
      zLet (rUp g2 76 0 (4 * n31 + n23) n44) fun g3 =>
      .inl (1, [n23 + 1, n24, n25], g3)
  else .inr (0, 0, g0)
noncomputable def fn49 (x : List Int) (g : rHp) : zR := zGoo (en49 g) (dn49 x g)
noncomputable def sn49 : zSpc := fun a g o v g_q => (o, v, g_q) = fn49 [] g
noncomputable def pl49 : Nat → List Int → List Int
  | 0, vs => [vs.getD 23 0]
  | 1, vs => [vs.getD 23 0, vs.getD 24 0, vs.getD 25 0]
  | _, _ => []
noncomputable def jn49 : List Int → rHp → Nat → List Int → rHp → Prop := fun a g i vs g1 => fn49 [] g = zLoop (en49 g) (i, pl49 i vs, g1)
noncomputable def fn50 (x : List Int) (g0 : rHp) : zR :=
  zLet (rUp g0 15 0 59 0) fun g1 =>
  zLet (rUp g1 15 0 93 0) fun g2 =>
  (0, 0, g2)
noncomputable def sn50 : zSpc := fun a g o v g_q => (o, v, g_q) = fn50 [] g
noncomputable def dn51 (x : List Int) (g0 : rHp) : zSt :=
  zLet (g0 15 0 13) fun n9 =>
  zLet (rUp g0 15 0 0 0) fun g1 =>
  zLet (fn5 [] g1) fun p1 =>
  zLet p1.2.2 fun g2 =>
  zLet (rUp g2 15 0 14 n9) fun g3 =>
  zLet (rUp g3 15 0 18 0) fun g4 =>
  zLet (rUp g4 15 0 33 0) fun g5 =>
  zLet (fn7 [] g5) fun p5 =>
  zLet p5.2.2 fun g6 =>
  .inl (0, [0], g6)
noncomputable def en51 (g0 : rHp) (s : Nat × List Int × rHp) : zSt :=
  if s.1 = 0 then
    zLet s.2.2 fun g1 =>
    zLet (s.2.1.getD 0 0) fun n25 =>
    zLet (g0 15 0 3) fun n2 =>
    zLet (g0 15 0 32) fun n5 =>
    zLet (g0 15 0 17) fun n6 =>
    zLet (g0 15 0 13) fun n9 =>
    zLet (g1 15 0 35) fun n29 =>
    zLet (g1 15 0 18) fun n30 =>
    zLet (g1 15 0 33) fun n31 =>
    zLet (g1 15 0 14) fun n32 =>
    if n29 ≥ n2 then
      zLet (rUp g1 15 0 13 n32) fun g2 =>
      zLet (rUp g2 15 0 17 (n30 + n6)) fun g3 =>
      zLet (rUp g3 15 0 32 (n31 + n5)) fun g4 =>
      if n31 + n30 ≤ 0 then
        .inr (0, n25, g4)
      else
        zLet (fn50 [] g4) fun p4 =>
        zLet p4.2.2 fun g5 =>
        .inr (0, n25, g5)
    else
      zLet (fn49 [] g1) fun p1 =>
      zLet p1.2.2 fun g2 =>
      if 1 ≤ p1.2.1 then
        zLet (fn7 [] g2) fun p2 =>
        zLet p2.2.2 fun g3 =>
        .inl (0, [n25 + 1], g3)
      else
        zLet (g2 15 0 36) fun n57 =>
        zLet (rUp g2 15 0 14 n9) fun g3 =>
        .inr (0, -n57 + (-1), g3)
  else .inr (0, 0, g0)
noncomputable def fn51 (x : List Int) (g : rHp) : zR := zGoo (en51 g) (dn51 x g)
noncomputable def sn51 : zSpc := fun a g o v g_q => (o, v, g_q) = fn51 [] g
noncomputable def pl51 : Nat → List Int → List Int
  | 0, vs => [vs.getD 25 0]
  | _, _ => []
noncomputable def jn51 : List Int → rHp → Nat → List Int → rHp → Prop := fun a g i vs g1 => fn51 [] g = zLoop (en51 g) (i, pl51 i vs, g1)
noncomputable def dn52 (x : List Int) (g0 : rHp) : zSt :=
  zLet (g0 15 0 3) fun n2 =>
  zLet (g0 15 0 13) fun n4 =>
  zLet (g0 15 0 17) fun n6 =>
  zLet (rUp g0 15 0 0 0) fun g1 =>
  zLet (fn5 [] g1) fun p1 =>
  zLet p1.2.2 fun g2 =>
  zLet (rUp g2 15 0 14 n4) fun g3 =>
  zLet (fn32 [61] g3) fun p3 =>
  zLet p3.2.2 fun g4 =>
  zLet (fn27 [] g4) fun p4 =>
  zLet p4.2.2 fun g5 =>
  if 1 ≤ p4.2.1 then
    zLet (g5 15 0 46) fun n31 =>
    zLet (g5 15 0 47) fun n32 =>
    zLet (g5 15 0 48) fun n33 =>
    zLet (fn7 [] g5) fun p5 =>
    zLet p5.2.2 fun g6 =>
    zLet (g6 15 0 35) fun n34 =>
    zLet (fn6 [n34] g6) fun p6 =>
    zLet p6.2.2 fun g7 =>
    if 0 ≤ -n34 + n2 + (-1) then
      zLet (p6.2.1) fun n35 =>
      if n35 ≠ 46 then
        zLet (fn8 [n34] g7) fun p7 =>
        zLet p7.2.2 fun g8 =>
        zLet (g8 15 0 36) fun n36 =>
        .inr (0, -n36 + (-1), g8)
      else
        zLet (fn31 [] g7) fun p7 =>
        zLet p7.2.2 fun g8 =>
        if 1 ≤ p7.2.1 then
          zLet (rUp g8 15 0 35 (n34 + 1)) fun g9 =>
          zLet (fn7 [] g9) fun p9 =>
          zLet p9.2.2 fun g10 =>
          zLet (g10 15 0 35) fun n36 =>
          if n36 = n2 then
            zLet (fn21 [n31, n32, n33] g10) fun p10 =>
            zLet p10.2.2 fun g11 =>
            zLet (p10.2.1) fun n37 =>
            if n37 ≥ 0 then
              zLet (fn45 [n37, n6] g11) fun p11 =>
              zLet p11.2.2 fun g12 =>
              zLet (p11.2.1) fun n38 =>
              if n38 ≥ 0 then
                zLet (rUp g12 15 0 17 (n6 + (-1))) fun g13 =>
                .inl (0, [n38, n38, n37], g13)
              else
                .inr (0, 0, g12)
            else
              .inr (0, 0, g11)
          else
            zLet (fn8 [n36] g10) fun p10 =>
            zLet p10.2.2 fun g11 =>
            zLet (g11 15 0 36) fun n37 =>
            .inr (0, -n37 + (-1), g11)
        else
          zLet (g8 15 0 36) fun n36 =>
          .inr (0, -n36 + (-1), g8)
    else
      zLet (fn8 [n34] g7) fun p7 =>
      zLet p7.2.2 fun g8 =>
      zLet (g8 15 0 36) fun n35 =>
      .inr (0, -n35 + (-1), g8)
  else
    zLet (g5 15 0 36) fun n28 =>
    .inr (0, -n28 + (-1), g5)
noncomputable def en52 (g0 : rHp) (s : Nat × List Int × rHp) : zSt :=
  if s.1 = 0 then
    zLet s.2.2 fun g1 =>
    zLet (s.2.1.getD 0 0) fun n22 =>
    zLet (s.2.1.getD 1 0) fun n23 =>
    zLet (s.2.1.getD 2 0) fun n24 =>
    zLet (g1 15 0 17) fun n29 =>
    if n22 ≥ n29 then
      zLet (fn50 [] g1) fun p1 =>
      zLet p1.2.2 fun g2 =>
      .inr (0, 1, g2)
    else
      zLet (g1 67 0 (n22 + 1)) fun n41 =>
      zLet (rUp g1 67 0 n22 n41) fun g2 =>
      zLet (g1 68 0 (4 * n22 + 4)) fun n42 =>
      zLet (rUp g2 68 0 (4 * n22) n42) fun g3 =>
      zLet (g1 68 0 (4 * n22 + 5)) fun n43 =>
      zLet (rUp g3 68 0 (4 * n22 + 1) n43) fun g4 =>
      zLet (g1 68 0 (4 * n22 + 6)) fun n44 =>
      zLet (rUp g4 68 0 (4 * n22 + 2) n44) fun g5 =>
      zLet (g1 68 0 (4 * n22 + 7)) fun n45 =>
      zLet (rUp g5 68 0 (4 * n22 + 3) n45) fun g6 =>
      .inl (0, [n22 + 1, n23, n24], g6)
  else .inr (0, 0, g0)
noncomputable def fn52 (x : List Int) (g : rHp) : zR := zGoo (en52 g) (dn52 x g)
noncomputable def sn52 : zSpc := fun a g o v g_q => (o, v, g_q) = fn52 [] g
noncomputable def pl52 : Nat → List Int → List Int
  | 0, vs => [vs.getD 22 0, vs.getD 23 0, vs.getD 24 0]
  | _, _ => []
noncomputable def jn52 : List Int → rHp → Nat → List Int → rHp → Prop := fun a g i vs g1 => fn52 [] g = zLoop (en52 g) (i, pl52 i vs, g1)
noncomputable def fn53 (x : List Int) (g0 : rHp) : zR :=
  zLet (x.getD 0 0) fun n0 =>
  zLet (g0 69 0 (n0 + 1)) fun n2 =>
  zLet (rUp g0 69 0 n0 n2) fun g1 =>
  zLet (g0 71 0 (n0 + 1)) fun n3 =>
  zLet (rUp g1 71 0 n0 n3) fun g2 =>
  zLet (g0 72 0 (n0 + 1)) fun n4 =>
  zLet (rUp g2 72 0 n0 n4) fun g3 =>
  zLet (g0 73 0 (n0 + 1)) fun n5 =>
  zLet (rUp g3 73 0 n0 n5) fun g4 =>
  zLet (g0 74 0 (n0 + 1)) fun n6 =>
  zLet (rUp g4 74 0 n0 n6) fun g5 =>
  zLet (g0 75 0 (n0 + 1)) fun n7 =>
  zLet (rUp g5 75 0 n0 n7) fun g6 =>
  zLet (g0 70 0 (4 * n0 + 4)) fun n8 =>
  zLet (rUp g6 70 0 (4 * n0) n8) fun g7 =>
  zLet (g0 76 0 (4 * n0 + 4)) fun n9 =>
  zLet (rUp g7 76 0 (4 * n0) n9) fun g8 =>
  zLet (g0 70 0 (4 * n0 + 5)) fun n10 =>
  zLet (rUp g8 70 0 (4 * n0 + 1) n10) fun g9 =>
  zLet (g0 76 0 (4 * n0 + 5)) fun n11 =>
  zLet (rUp g9 76 0 (4 * n0 + 1) n11) fun g10 =>
  zLet (g0 70 0 (4 * n0 + 6)) fun n12 =>
  zLet (rUp g10 70 0 (4 * n0 + 2) n12) fun g11 =>
  zLet (g0 76 0 (4 * n0 + 6)) fun n13 =>
  zLet (rUp g11 76 0 (4 * n0 + 2) n13) fun g12 =>
  zLet (g0 70 0 (4 * n0 + 7)) fun n14 =>
  zLet (rUp g12 70 0 (4 * n0 + 3) n14) fun g13 =>
  zLet (g0 76 0 (4 * n0 + 7)) fun n15 =>
  zLet (rUp g13 76 0 (4 * n0 + 3) n15) fun g14 =>
  zLet (g0 77 0 (8 * n0 + 8)) fun n16 =>
  zLet (rUp g14 77 0 (8 * n0) n16) fun g15 =>
  zLet (g0 78 0 (8 * n0 + 8)) fun n17 =>
  zLet (rUp g15 78 0 (8 * n0) n17) fun g16 =>
  zLet (g0 79 0 (8 * n0 + 8)) fun n18 =>
  zLet (rUp g16 79 0 (8 * n0) n18) fun g17 =>
  zLet (g0 77 0 (8 * n0 + 9)) fun n19 =>
  zLet (rUp g17 77 0 (8 * n0 + 1) n19) fun g18 =>
  zLet (g0 78 0 (8 * n0 + 9)) fun n20 =>
  zLet (rUp g18 78 0 (8 * n0 + 1) n20) fun g19 =>
  zLet (g0 79 0 (8 * n0 + 9)) fun n21 =>
  zLet (rUp g19 79 0 (8 * n0 + 1) n21) fun g20 =>
  zLet (g0 77 0 (8 * n0 + 10)) fun n22 =>
  zLet (rUp g20 77 0 (8 * n0 + 2) n22) fun g21 =>
  zLet (g0 78 0 (8 * n0 + 10)) fun n23 =>
  zLet (rUp g21 78 0 (8 * n0 + 2) n23) fun g22 =>
  zLet (g0 79 0 (8 * n0 + 10)) fun n24 =>
  zLet (rUp g22 79 0 (8 * n0 + 2) n24) fun g23 =>
  zLet (g0 77 0 (8 * n0 + 11)) fun n25 =>
  zLet (rUp g23 77 0 (8 * n0 + 3) n25) fun g24 =>
  zLet (g0 78 0 (8 * n0 + 11)) fun n26 =>
  zLet (rUp g24 78 0 (8 * n0 + 3) n26) fun g25 =>
  zLet (g0 79 0 (8 * n0 + 11)) fun n27 =>
  zLet (rUp g25 79 0 (8 * n0 + 3) n27) fun g26 =>
  zLet (g0 77 0 (8 * n0 + 12)) fun n28 =>
  zLet (rUp g26 77 0 (8 * n0 + 4) n28) fun g27 =>
  zLet (g0 78 0 (8 * n0 + 12)) fun n29 =>
  zLet (rUp g27 78 0 (8 * n0 + 4) n29) fun g28 =>
  zLet (g0 79 0 (8 * n0 + 12)) fun n30 =>
  zLet (rUp g28 79 0 (8 * n0 + 4) n30) fun g29 =>
  zLet (g0 77 0 (8 * n0 + 13)) fun n31 =>
  zLet (rUp g29 77 0 (8 * n0 + 5) n31) fun g30 =>
  zLet (g0 78 0 (8 * n0 + 13)) fun n32 =>
  zLet (rUp g30 78 0 (8 * n0 + 5) n32) fun g31 =>
  zLet (g0 79 0 (8 * n0 + 13)) fun n33 =>
  zLet (rUp g31 79 0 (8 * n0 + 5) n33) fun g32 =>
  zLet (g0 77 0 (8 * n0 + 14)) fun n34 =>
  zLet (rUp g32 77 0 (8 * n0 + 6) n34) fun g33 =>
  zLet (g0 78 0 (8 * n0 + 14)) fun n35 =>
  zLet (rUp g33 78 0 (8 * n0 + 6) n35) fun g34 =>
  zLet (g0 79 0 (8 * n0 + 14)) fun n36 =>
  zLet (rUp g34 79 0 (8 * n0 + 6) n36) fun g35 =>
  zLet (g0 77 0 (8 * n0 + 15)) fun n37 =>
  zLet (rUp g35 77 0 (8 * n0 + 7) n37) fun g36 =>
  zLet (g0 78 0 (8 * n0 + 15)) fun n38 =>
  zLet (rUp g36 78 0 (8 * n0 + 7) n38) fun g37 =>
  zLet (g0 79 0 (8 * n0 + 15)) fun n39 =>
  zLet (rUp g37 79 0 (8 * n0 + 7) n39) fun g38 =>
  zLet (g0 80 0 (32 * n0 + 32)) fun n40 =>
  zLet (rUp g38 80 0 (32 * n0) n40) fun g39 =>
  zLet (g0 81 0 (32 * n0 + 32)) fun n41 =>
  zLet (rUp g39 81 0 (32 * n0) n41) fun g40 =>
  zLet (g0 80 0 (32 * n0 + 33)) fun n42 =>
  zLet (rUp g40 80 0 (32 * n0 + 1) n42) fun g41 =>
  zLet (g0 81 0 (32 * n0 + 33)) fun n43 =>
  zLet (rUp g41 81 0 (32 * n0 + 1) n43) fun g42 =>
  zLet (g0 80 0 (32 * n0 + 34)) fun n44 =>
  zLet (rUp g42 80 0 (32 * n0 + 2) n44) fun g43 =>
  zLet (g0 81 0 (32 * n0 + 34)) fun n45 =>
  zLet (rUp g43 81 0 (32 * n0 + 2) n45) fun g44 =>
  zLet (g0 80 0 (32 * n0 + 35)) fun n46 =>
  zLet (rUp g44 80 0 (32 * n0 + 3) n46) fun g45 =>
  zLet (g0 81 0 (32 * n0 + 35)) fun n47 =>
  zLet (rUp g45 81 0 (32 * n0 + 3) n47) fun g46 =>
  zLet (g0 80 0 (32 * n0 + 36)) fun n48 =>
  zLet (rUp g46 80 0 (32 * n0 + 4) n48) fun g47 =>
  zLet (g0 81 0 (32 * n0 + 36)) fun n49 =>
  zLet (rUp g47 81 0 (32 * n0 + 4) n49) fun g48 =>
  zLet (g0 80 0 (32 * n0 + 37)) fun n50 =>
  zLet (rUp g48 80 0 (32 * n0 + 5) n50) fun g49 =>
  zLet (g0 81 0 (32 * n0 + 37)) fun n51 =>
  zLet (rUp g49 81 0 (32 * n0 + 5) n51) fun g50 =>
  zLet (g0 80 0 (32 * n0 + 38)) fun n52 =>
  zLet (rUp g50 80 0 (32 * n0 + 6) n52) fun g51 =>
  zLet (g0 81 0 (32 * n0 + 38)) fun n53 =>
  zLet (rUp g51 81 0 (32 * n0 + 6) n53) fun g52 =>
  zLet (g0 80 0 (32 * n0 + 39)) fun n54 =>
  zLet (rUp g52 80 0 (32 * n0 + 7) n54) fun g53 =>
  zLet (g0 81 0 (32 * n0 + 39)) fun n55 =>
  zLet (rUp g53 81 0 (32 * n0 + 7) n55) fun g54 =>
  zLet (g0 80 0 (32 * n0 + 40)) fun n56 =>
  zLet (rUp g54 80 0 (32 * n0 + 8) n56) fun g55 =>
  zLet (g0 81 0 (32 * n0 + 40)) fun n57 =>
  zLet (rUp g55 81 0 (32 * n0 + 8) n57) fun g56 =>
  zLet (g0 80 0 (32 * n0 + 41)) fun n58 =>
  zLet (rUp g56 80 0 (32 * n0 + 9) n58) fun g57 =>
  zLet (g0 81 0 (32 * n0 + 41)) fun n59 =>
  zLet (rUp g57 81 0 (32 * n0 + 9) n59) fun g58 =>
  zLet (g0 80 0 (32 * n0 + 42)) fun n60 =>
  zLet (rUp g58 80 0 (32 * n0 + 10) n60) fun g59 =>
  zLet (g0 81 0 (32 * n0 + 42)) fun n61 =>
  zLet (rUp g59 81 0 (32 * n0 + 10) n61) fun g60 =>
  zLet (g0 80 0 (32 * n0 + 43)) fun n62 =>
  zLet (rUp g60 80 0 (32 * n0 + 11) n62) fun g61 =>
  zLet (g0 81 0 (32 * n0 + 43)) fun n63 =>
  zLet (rUp g61 81 0 (32 * n0 + 11) n63) fun g62 =>
  zLet (g0 80 0 (32 * n0 + 44)) fun n64 =>
  zLet (rUp g62 80 0 (32 * n0 + 12) n64) fun g63 =>
  zLet (g0 81 0 (32 * n0 + 44)) fun n65 =>
  zLet (rUp g63 81 0 (32 * n0 + 12) n65) fun g64 =>
  zLet (g0 80 0 (32 * n0 + 45)) fun n66 =>
  zLet (rUp g64 80 0 (32 * n0 + 13) n66) fun g65 =>
  zLet (g0 81 0 (32 * n0 + 45)) fun n67 =>
  zLet (rUp g65 81 0 (32 * n0 + 13) n67) fun g66 =>
  zLet (g0 80 0 (32 * n0 + 46)) fun n68 =>
  zLet (rUp g66 80 0 (32 * n0 + 14) n68) fun g67 =>
  zLet (g0 81 0 (32 * n0 + 46)) fun n69 =>
  zLet (rUp g67 81 0 (32 * n0 + 14) n69) fun g68 =>
  zLet (g0 80 0 (32 * n0 + 47)) fun n70 =>
  zLet (rUp g68 80 0 (32 * n0 + 15) n70) fun g69 =>
  zLet (g0 81 0 (32 * n0 + 47)) fun n71 =>
  zLet (rUp g69 81 0 (32 * n0 + 15) n71) fun g70 =>
  zLet (g0 80 0 (32 * n0 + 48)) fun n72 =>
  zLet (rUp g70 80 0 (32 * n0 + 16) n72) fun g71 =>
  zLet (g0 81 0 (32 * n0 + 48)) fun n73 =>
  zLet (rUp g71 81 0 (32 * n0 + 16) n73) fun g72 =>
  zLet (g0 80 0 (32 * n0 + 49)) fun n74 =>
  zLet (rUp g72 80 0 (32 * n0 + 17) n74) fun g73 =>
  zLet (g0 81 0 (32 * n0 + 49)) fun n75 =>
  zLet (rUp g73 81 0 (32 * n0 + 17) n75) fun g74 =>
  zLet (g0 80 0 (32 * n0 + 50)) fun n76 =>
  zLet (rUp g74 80 0 (32 * n0 + 18) n76) fun g75 =>
  zLet (g0 81 0 (32 * n0 + 50)) fun n77 =>
  zLet (rUp g75 81 0 (32 * n0 + 18) n77) fun g76 =>
  zLet (g0 80 0 (32 * n0 + 51)) fun n78 =>
  zLet (rUp g76 80 0 (32 * n0 + 19) n78) fun g77 =>
  zLet (g0 81 0 (32 * n0 + 51)) fun n79 =>
  zLet (rUp g77 81 0 (32 * n0 + 19) n79) fun g78 =>
  zLet (g0 80 0 (32 * n0 + 52)) fun n80 =>
  zLet (rUp g78 80 0 (32 * n0 + 20) n80) fun g79 =>
  zLet (g0 81 0 (32 * n0 + 52)) fun n81 =>
  zLet (rUp g79 81 0 (32 * n0 + 20) n81) fun g80 =>
  zLet (g0 80 0 (32 * n0 + 53)) fun n82 =>
  zLet (rUp g80 80 0 (32 * n0 + 21) n82) fun g81 =>
  zLet (g0 81 0 (32 * n0 + 53)) fun n83 =>
  zLet (rUp g81 81 0 (32 * n0 + 21) n83) fun g82 =>
  zLet (g0 80 0 (32 * n0 + 54)) fun n84 =>
  zLet (rUp g82 80 0 (32 * n0 + 22) n84) fun g83 =>
  zLet (g0 81 0 (32 * n0 + 54)) fun n85 =>
  zLet (rUp g83 81 0 (32 * n0 + 22) n85) fun g84 =>
  zLet (g0 80 0 (32 * n0 + 55)) fun n86 =>
  zLet (rUp g84 80 0 (32 * n0 + 23) n86) fun g85 =>
  zLet (g0 81 0 (32 * n0 + 55)) fun n87 =>
  zLet (rUp g85 81 0 (32 * n0 + 23) n87) fun g86 =>
  zLet (g0 80 0 (32 * n0 + 56)) fun n88 =>
  zLet (rUp g86 80 0 (32 * n0 + 24) n88) fun g87 =>
  zLet (g0 81 0 (32 * n0 + 56)) fun n89 =>
  zLet (rUp g87 81 0 (32 * n0 + 24) n89) fun g88 =>
  zLet (g0 80 0 (32 * n0 + 57)) fun n90 =>
  zLet (rUp g88 80 0 (32 * n0 + 25) n90) fun g89 =>
  zLet (g0 81 0 (32 * n0 + 57)) fun n91 =>
  zLet (rUp g89 81 0 (32 * n0 + 25) n91) fun g90 =>
  zLet (g0 80 0 (32 * n0 + 58)) fun n92 =>
  zLet (rUp g90 80 0 (32 * n0 + 26) n92) fun g91 =>
  zLet (g0 81 0 (32 * n0 + 58)) fun n93 =>
  zLet (rUp g91 81 0 (32 * n0 + 26) n93) fun g92 =>
  zLet (g0 80 0 (32 * n0 + 59)) fun n94 =>
  zLet (rUp g92 80 0 (32 * n0 + 27) n94) fun g93 =>
  zLet (g0 81 0 (32 * n0 + 59)) fun n95 =>
  zLet (rUp g93 81 0 (32 * n0 + 27) n95) fun g94 =>
  zLet (g0 80 0 (32 * n0 + 60)) fun n96 =>
  zLet (rUp g94 80 0 (32 * n0 + 28) n96) fun g95 =>
  zLet (g0 81 0 (32 * n0 + 60)) fun n97 =>
  zLet (rUp g95 81 0 (32 * n0 + 28) n97) fun g96 =>
  zLet (g0 80 0 (32 * n0 + 61)) fun n98 =>
  zLet (rUp g96 80 0 (32 * n0 + 29) n98) fun g97 =>
  zLet (g0 81 0 (32 * n0 + 61)) fun n99 =>
  zLet (rUp g97 81 0 (32 * n0 + 29) n99) fun g98 =>
  zLet (g0 80 0 (32 * n0 + 62)) fun n100 =>
  zLet (rUp g98 80 0 (32 * n0 + 30) n100) fun g99 =>
  zLet (g0 81 0 (32 * n0 + 62)) fun n101 =>
  zLet (rUp g99 81 0 (32 * n0 + 30) n101) fun g100 =>
  zLet (g0 80 0 (32 * n0 + 63)) fun n102 =>
  zLet (rUp g100 80 0 (32 * n0 + 31) n102) fun g101 =>
  zLet (g0 81 0 (32 * n0 + 63)) fun n103 =>
  zLet (rUp g101 81 0 (32 * n0 + 31) n103) fun g102 =>
  (0, 0, g102)
noncomputable def sn53 : zSpc := fun a g o v g_q => (o, v, g_q) = fn53 [a.getD 0 0] g
noncomputable def dn54 (x : List Int) (g0 : rHp) : zSt :=
  zLet (x.getD 0 0) fun n0 =>
  zLet (g0 15 0 32) fun n2 =>
  if n0 < 0 then
    zLet (fn1 [1] g0) fun p0 =>
    zLet p0.2.2 fun g1 =>
    .inr (0, 0, g1)
  else
    if n0 < n2 then
      zLet (fn1 [0] g0) fun p0 =>
      zLet p0.2.2 fun g1 =>
      zLet (rUp g1 15 0 32 (n2 + (-1))) fun g2 =>
      .inl (0, [n0, n0], g2)
    else
      zLet (fn1 [1] g0) fun p0 =>
      zLet p0.2.2 fun g1 =>
      .inr (0, 0, g1)
noncomputable def en54 (g0 : rHp) (s : Nat × List Int × rHp) : zSt :=
  if s.1 = 0 then
    zLet s.2.2 fun g1 =>
    zLet (s.2.1.getD 0 0) fun n0 =>
    zLet (s.2.1.getD 1 0) fun n4 =>
    zLet (g1 15 0 32) fun n6 =>
    if n4 ≥ n6 then
      zLet (fn50 [] g1) fun p1 =>
      zLet p1.2.2 fun g2 =>
      .inr (0, n6, g2)
    else
      zLet (fn53 [n4] g1) fun p1 =>
      zLet p1.2.2 fun g2 =>
      .inl (0, [n0, n4 + 1], g2)
  else .inr (0, 0, g0)
noncomputable def fn54 (x : List Int) (g : rHp) : zR := zGoo (en54 g) (dn54 x g)
noncomputable def sn54 : zSpc := fun a g o v g_q => (o, v, g_q) = fn54 [a.getD 0 0] g
noncomputable def pl54 : Nat → List Int → List Int
  | 0, vs => [vs.getD 0 0, vs.getD 4 0]
  | _, _ => []
noncomputable def jn54 : List Int → rHp → Nat → List Int → rHp → Prop := fun a g i vs g1 => fn54 [a.getD 0 0] g = zLoop (en54 g) (i, pl54 i vs, g1)
noncomputable def fn55 (x : List Int) (g0 : rHp) : zR :=
  zLet (x.getD 0 0) fun n0 =>
  if n0 ≥ 549755813888 then
    (0, 0, g0)
  else
    (0, 1, g0)
noncomputable def sn55 : zSpc := fun a g o v g_q => (o, v, g_q) = fn55 [a.getD 0 0] g
noncomputable def dn56 (x : List Int) (g0 : rHp) : zSt :=
  zLet (x.getD 0 0) fun n0 =>
  zLet (g0 100 0 n0) fun n3 =>
  if 0 ≤ -n3 + (-1) then
    .inr (0, (-1), g0)
  else
    .inl (0, [n0, n3], g0)
noncomputable def en56 (g0 : rHp) (s : Nat × List Int × rHp) : zSt :=
  if s.1 = 0 then
    zLet s.2.2 fun g1 =>
    zLet (s.2.1.getD 0 0) fun n0 =>
    zLet (s.2.1.getD 1 0) fun n3 =>
    .inl (1, [n0, 0, 1, n3], g1)
  else if s.1 = 1 then
    zLet s.2.2 fun g1 =>
    zLet (s.2.1.getD 0 0) fun n0 =>
    zLet (s.2.1.getD 1 0) fun n3 =>
    zLet (s.2.1.getD 2 0) fun n4 =>
    zLet (s.2.1.getD 3 0) fun n5 =>
    zLet (g0 66 0 n0) fun n6 =>
    if n3 ≥ n6 then
      if n4 = 0 then
        zLet (g0 96 0 n5) fun n7 =>
        if 0 ≤ -n7 + (-1) then
          .inr (0, (-1), g1)
        else
          .inl (0, [n0, n7], g1)
      else
        .inr (0, n5, g1)
    else
      if n4 = 0 then
        zLet (g0 96 0 n5) fun n7 =>
        if 0 ≤ -n7 + (-1) then
          .inr (0, (-1), g1)
        else
          .inl (0, [n0, n7], g1)
      else
        zLet (g0 99 0 (4 * n5 + n3)) fun n7 =>
        zLet (g0 102 0 n3) fun n8 =>
        if n7 ≠ n8 then
          .inl (1, [n0, n3 + 1, 0, n5], g1)
        else
          .inl (1, [n0, n3 + 1, 1, n5], g1)
  else .inr (0, 0, g0)
noncomputable def fn56 (x : List Int) (g : rHp) : zR := zGoo (en56 g) (dn56 x g)
noncomputable def sn56 : zSpc := fun a g o v g_q => (o, v, g_q) = fn56 [a.getD 0 0] g
noncomputable def pl56 : Nat → List Int → List Int
  | 0, vs => [vs.getD 0 0, vs.getD 3 0]
  | 1, vs => [vs.getD 0 0, vs.getD 3 0, vs.getD 4 0, vs.getD 5 0]
  | _, _ => []
noncomputable def jn56 : List Int → rHp → Nat → List Int → rHp → Prop := fun a g i vs g1 => fn56 [a.getD 0 0] g = zLoop (en56 g) (i, pl56 i vs, g1)
noncomputable def dn57 (x : List Int) (g0 : rHp) : zSt :=
  zLet (x.getD 0 0) fun n0 =>
  zLet (x.getD 1 0) fun n1 =>
  zLet (g0 15 0 71) fun n3 =>
  zLet (g0 100 0 n0) fun n5 =>
  zLet (g0 101 0 n0) fun n6 =>
  zLet (g0 15 0 76) fun n7 =>
  zLet (fn56 [n0] g0) fun p0 =>
  zLet p0.2.2 fun g1 =>
  zLet (p0.2.1) fun n9 =>
  if n9 < 0 then
    if n3 ≠ 2000 then
      zLet (rUp g1 15 0 71 (n3 + 1)) fun g2 =>
      zLet (rUp g2 93 0 n3 n0) fun g3 =>
      zLet (rUp g3 94 0 n3 n7) fun g4 =>
      zLet (rUp g4 95 0 n3 n1) fun g5 =>
      zLet (rUp g5 96 0 n3 ((-1))) fun g6 =>
      zLet (rUp g6 97 0 n3 0) fun g7 =>
      zLet (g0 66 0 n0) fun n10 =>
      if 0 ≥ n10 then
        zLet (rUp g7 99 0 (4 * n3) 0) fun g8 =>
        zLet (rUp g8 99 0 (4 * n3 + 1) 0) fun g9 =>
        zLet (rUp g9 99 0 (4 * n3 + 2) 0) fun g10 =>
        zLet (rUp g10 99 0 (4 * n3 + 3) 0) fun g11 =>
        if n5 ≥ 0 then
          zLet (rUp g11 96 0 n6 n3) fun g12 =>
          zLet (rUp g12 101 0 n0 n3) fun g13 =>
          .inl (0, [n0, n1, 0], g13)
        else
          zLet (rUp g11 100 0 n0 n3) fun g12 =>
          zLet (rUp g12 101 0 n0 n3) fun g13 =>
          .inl (0, [n0, n1, 0], g13)
      else
        zLet (g0 102 0 0) fun n11 =>
        zLet (rUp g7 99 0 (4 * n3) n11) fun g8 =>
        if 1 ≥ n10 then
          zLet (rUp g8 99 0 (4 * n3 + 1) 0) fun g9 =>
          zLet (rUp g9 99 0 (4 * n3 + 2) 0) fun g10 =>
          zLet (rUp g10 99 0 (4 * n3 + 3) 0) fun g11 =>
          if n5 ≥ 0 then
            zLet (rUp g11 96 0 n6 n3) fun g12 =>
            zLet (rUp g12 101 0 n0 n3) fun g13 =>
            .inl (0, [n0, n1, 0], g13)
          else
            zLet (rUp g11 100 0 n0 n3) fun g12 =>
            zLet (rUp g12 101 0 n0 n3) fun g13 =>
            .inl (0, [n0, n1, 0], g13)
        else
          zLet (g0 102 0 1) fun n12 =>
          zLet (rUp g8 99 0 (4 * n3 + 1) n12) fun g9 =>
          if 2 ≥ n10 then
            zLet (rUp g9 99 0 (4 * n3 + 2) 0) fun g10 =>
            zLet (rUp g10 99 0 (4 * n3 + 3) 0) fun g11 =>
            if n5 ≥ 0 then
              zLet (rUp g11 96 0 n6 n3) fun g12 =>
              zLet (rUp g12 101 0 n0 n3) fun g13 =>
              .inl (0, [n0, n1, 0], g13)
            else
              zLet (rUp g11 100 0 n0 n3) fun g12 =>
              zLet (rUp g12 101 0 n0 n3) fun g13 =>
              .inl (0, [n0, n1, 0], g13)
          else
            zLet (g0 102 0 2) fun n13 =>
            zLet (rUp g9 99 0 (4 * n3 + 2) n13) fun g10 =>
            if 3 ≥ n10 then
              zLet (rUp g10 99 0 (4 * n3 + 3) 0) fun g11 =>
              if n5 ≥ 0 then
                zLet (rUp g11 96 0 n6 n3) fun g12 =>
                zLet (rUp g12 101 0 n0 n3) fun g13 =>
                .inl (0, [n0, n1, 0], g13)
              else
                zLet (rUp g11 100 0 n0 n3) fun g12 =>
                zLet (rUp g12 101 0 n0 n3) fun g13 =>
                .inl (0, [n0, n1, 0], g13)
            else
              zLet (g0 102 0 3) fun n14 =>
              zLet (rUp g10 99 0 (4 * n3 + 3) n14) fun g11 =>
              if n5 ≥ 0 then
                zLet (rUp g11 96 0 n6 n3) fun g12 =>
                zLet (rUp g12 101 0 n0 n3) fun g13 =>
                .inl (0, [n0, n1, 0], g13)
              else
                zLet (rUp g11 100 0 n0 n3) fun g12 =>
                zLet (rUp g12 101 0 n0 n3) fun g13 =>
                .inl (0, [n0, n1, 0], g13)
    else
      zLet (rUp g1 15 0 77 3) fun g2 =>
      .inr (0, 0, g2)
  else
    .inr (0, 0, g1)
noncomputable def en57 (g0 : rHp) (s : Nat × List Int × rHp) : zSt :=
  if s.1 = 0 then
    zLet s.2.2 fun g1 =>
    zLet (s.2.1.getD 0 0) fun n0 =>
    zLet (s.2.1.getD 1 0) fun n1 =>
    zLet (s.2.1.getD 2 0) fun n9 =>
    zLet (g0 15 0 71) fun n3 =>
    zLet (g1 97 0 n3) fun n11 =>
    if n1 < 0 then
      .inr (0, 0, g1)
    else
      zLet (g0 71 0 n1) fun n13 =>
      if n13 ≠ 0 then
        .inr (0, 0, g1)
      else
        zLet (g0 73 0 n1) fun n14 =>
        if n9 ≥ n14 then
          .inr (0, 0, g1)
        else
          zLet (g0 77 0 (n9 + 8 * n1)) fun n15 =>
          if n15 = 0 then
            zLet (g0 104 0 n9) fun n16 =>
            zLet (rUp g1 98 0 (n11 + 8 * n3) n16) fun g2 =>
            zLet (rUp g2 97 0 n3 (n11 + 1)) fun g3 =>
            .inl (0, [n0, n1, n9 + 1], g3)
          else
            .inl (0, [n0, n1, n9 + 1], g1)
  else .inr (0, 0, g0)
noncomputable def fn57 (x : List Int) (g : rHp) : zR := zGoo (en57 g) (dn57 x g)
noncomputable def sn57 : zSpc := fun a g o v g_q => (o, v, g_q) = fn57 [a.getD 0 0, a.getD 1 0] g
noncomputable def pl57 : Nat → List Int → List Int
  | 0, vs => [vs.getD 0 0, vs.getD 1 0, vs.getD 9 0]
  | _, _ => []
noncomputable def jn57 : List Int → rHp → Nat → List Int → rHp → Prop := fun a g i vs g1 => fn57 [a.getD 0 0, a.getD 1 0] g = zLoop (en57 g) (i, pl57 i vs, g1)
noncomputable def fn58 (x : List Int) (g0 : rHp) : zR :=
  zLet (x.getD 0 0) fun n0 =>
  zLet (g0 80 0 n0) fun n1 =>
  if n1 ≠ 1 then
    zLet (g0 81 0 n0) fun n2 =>
    (0, n2, g0)
  else
    zLet (g0 81 0 n0) fun n2 =>
    zLet (g0 103 0 n2) fun n3 =>
    (0, n3, g0)
noncomputable def sn58 : zSpc := fun a g o v g_q => (o, v, g_q) = fn58 [a.getD 0 0] g
noncomputable def fn59 (x : List Int) (g0 : rHp) : zR :=
  zLet (x.getD 0 0) fun n0 =>
  zLet (g0 15 0 82) fun n1 =>
  zLet (g0 15 0 83) fun n2 =>
  if n0 < n1 then
    (0, 0, g0)
  else
    if n0 ≥ n2 then
      (0, 0, g0)
    else
      (0, 1, g0)
noncomputable def sn59 : zSpc := fun a g o v g_q => (o, v, g_q) = fn59 [a.getD 0 0] g
noncomputable def dn60 (x : List Int) (g0 : rHp) : zSt :=
  zLet (x.getD 0 0) fun n0 =>
  zLet (x.getD 1 0) fun n1 =>
  zLet (g0 78 0 n0) fun n2 =>
  zLet (g0 66 0 n2) fun n3 =>
  .inl (0, [n0, n1, 0, n3], g0)
noncomputable def en60 (g0 : rHp) (s : Nat × List Int × rHp) : zSt :=
  if s.1 = 0 then
    zLet s.2.2 fun g1 =>
    zLet (s.2.1.getD 0 0) fun n0 =>
    zLet (s.2.1.getD 1 0) fun n1 =>
    zLet (s.2.1.getD 2 0) fun n2 =>
    zLet (s.2.1.getD 3 0) fun n3 =>
    if n2 ≥ n3 then
      .inr (0, 1, g1)
    else
      zLet (g0 80 0 (n2 + 4 * n0)) fun n4 =>
      zLet (g0 99 0 (n2 + 4 * n1)) fun n5 =>
      if n4 ≠ 0 then
        if n4 ≠ 1 then
          .inl (1, [n0, n1, 0, n5, n4, n2, n3], g1)
        else
          zLet (g0 79 0 n0) fun n6 =>
          zLet (g0 81 0 (n2 + 4 * n0)) fun n7 =>
          zLet (zF1 .l2i n7) fun n8 =>
          zLet (zF2 .ishr n6 n8) fun n9 =>
          zLet (zF2 .iand n9 1) fun n10 =>
          if n10 ≠ 1 then
            .inl (1, [n0, n1, 0, n5, n4, n2, n3], g1)
          else
            zLet (g0 103 0 n7) fun n11 =>
            if n11 = n5 then
              .inl (1, [n0, n1, 0, n5, n4, n2, n3], g1)
            else
              .inr (0, 0, g1)
      else
        zLet (g0 81 0 (n2 + 4 * n0)) fun n6 =>
        if n6 = n5 then
          .inl (1, [n0, n1, 0, n5, n4, n2, n3], g1)
        else
          .inr (0, 0, g1)
  else if s.1 = 1 then
    zLet s.2.2 fun g1 =>
    zLet (s.2.1.getD 0 0) fun n0 =>
    zLet (s.2.1.getD 1 0) fun n1 =>
    zLet (s.2.1.getD 2 0) fun n2 =>
    zLet (s.2.1.getD 3 0) fun n3 =>
    zLet (s.2.1.getD 4 0) fun n4 =>
    zLet (s.2.1.getD 5 0) fun n5 =>
    zLet (s.2.1.getD 6 0) fun n6 =>
    if n2 ≥ n5 then
      .inl (0, [n0, n1, n5 + 1, n6], g1)
    else
      if n4 ≠ 1 then
        .inl (0, [n0, n1, n5 + 1, n6], g1)
      else
        zLet (g0 80 0 (n2 + 4 * n0)) fun n7 =>
        if n7 ≠ 1 then
          .inl (1, [n0, n1, n2 + 1, n3, n4, n5, n6], g1)
        else
          zLet (g0 81 0 (n2 + 4 * n0)) fun n8 =>
          zLet (g0 81 0 (n5 + 4 * n0)) fun n9 =>
          if n8 ≠ n9 then
            .inl (1, [n0, n1, n2 + 1, n3, n4, n5, n6], g1)
          else
            zLet (g0 99 0 (n2 + 4 * n1)) fun n10 =>
            if n10 = n3 then
              .inl (1, [n0, n1, n2 + 1, n3, n4, n5, n6], g1)
            else
              .inr (0, 0, g1)
  else .inr (0, 0, g0)
noncomputable def fn60 (x : List Int) (g : rHp) : zR := zGoo (en60 g) (dn60 x g)
noncomputable def sn60 : zSpc := fun a g o v g_q => (o, v, g_q) = fn60 [a.getD 0 0, a.getD 1 0] g
noncomputable def pl60 : Nat → List Int → List Int
  | 0, vs => [vs.getD 0 0, vs.getD 1 0, vs.getD 2 0, vs.getD 3 0]
  | 1, vs => [vs.getD 0 0, vs.getD 1 0, vs.getD 2 0, vs.getD 3 0, vs.getD 4 0, vs.getD 5 0, vs.getD 6 0]
  | _, _ => []
noncomputable def jn60 : List Int → rHp → Nat → List Int → rHp → Prop := fun a g i vs g1 => fn60 [a.getD 0 0, a.getD 1 0] g = zLoop (en60 g) (i, pl60 i vs, g1)
noncomputable def dn61 (x : List Int) (g0 : rHp) : zSt :=
  zLet (x.getD 0 0) fun n0 =>
  zLet (x.getD 1 0) fun n1 =>
  zLet (g0 15 0 84) fun n5 =>
  if n5 ≠ 0 then
    .inl (0, [n0, n1, n1 + 1], g0)
  else
    .inr (0, 0, g0)
noncomputable def en61 (g0 : rHp) (s : Nat × List Int × rHp) : zSt :=
  if s.1 = 0 then
    zLet s.2.2 fun g1 =>
    zLet (s.2.1.getD 0 0) fun n0 =>
    zLet (s.2.1.getD 1 0) fun n1 =>
    zLet (s.2.1.getD 2 0) fun n5 =>
    zLet (g0 73 0 n0) fun n2 =>
    if n5 ≥ n2 then
      .inl (1, [n0, n1, 0], g1)
    else
      zLet (g0 77 0 (n5 + 8 * n0)) fun n6 =>
      if n6 ≠ 0 then
        .inl (0, [n0, n1, n5 + 1], g1)
      else
        .inr (0, 0, g1)
  else if s.1 = 1 then
    zLet s.2.2 fun g1 =>
    zLet (s.2.1.getD 0 0) fun n0 =>
    zLet (s.2.1.getD 1 0) fun n1 =>
    zLet (s.2.1.getD 2 0) fun n5 =>
    if n5 ≥ n1 then
      .inr (0, 1, g1)
    else
      zLet (g0 77 0 (n5 + 8 * n0)) fun n6 =>
      if n6 ≠ 0 then
        .inl (1, [n0, n1, n5 + 1], g1)
      else
        zLet (g0 104 0 n5) fun n7 =>
        zLet (fn59 [n7] g1) fun p1 =>
        zLet p1.2.2 fun g2 =>
        if 1 ≤ p1.2.1 then
          .inr (0, 0, g2)
        else
          .inl (1, [n0, n1, n5 + 1], g2)
  else .inr (0, 0, g0)
noncomputable def fn61 (x : List Int) (g : rHp) : zR := zGoo (en61 g) (dn61 x g)
noncomputable def sn61 : zSpc := fun a g o v g_q => (o, v, g_q) = fn61 [a.getD 0 0, a.getD 1 0] g
noncomputable def pl61 : Nat → List Int → List Int
  | 0, vs => [vs.getD 0 0, vs.getD 1 0, vs.getD 5 0]
  | 1, vs => [vs.getD 0 0, vs.getD 1 0, vs.getD 5 0]
  | _, _ => []
noncomputable def jn61 : List Int → rHp → Nat → List Int → rHp → Prop := fun a g i vs g1 => fn61 [a.getD 0 0, a.getD 1 0] g = zLoop (en61 g) (i, pl61 i vs, g1)
noncomputable def dn62 (x : List Int) (g0 : rHp) : zSt :=
  zLet (x.getD 0 0) fun n0 =>
  zLet (x.getD 1 0) fun n1 =>
  zLet (x.getD 2 0) fun n2 =>
  zLet (fn61 [n0, n1] g0) fun p0 =>
  zLet p0.2.2 fun g1 =>
  if 1 ≤ p0.2.1 then
    if 0 ≤ -n2 + (-1) then
      .inr (0, (-1), g1)
    else
      .inl (0, [n0, n1, n2, n2, 1], g1)
  else
    if 0 ≤ -n2 + (-1) then
      .inr (0, (-1), g1)
    else
      .inl (0, [n0, n1, n2, n2, 0], g1)
noncomputable def en62 (g0 : rHp) (s : Nat × List Int × rHp) : zSt :=
  if s.1 = 0 then
    zLet s.2.2 fun g1 =>
    zLet (s.2.1.getD 0 0) fun n0 =>
    zLet (s.2.1.getD 1 0) fun n1 =>
    zLet (s.2.1.getD 2 0) fun n2 =>
    zLet (s.2.1.getD 3 0) fun n7 =>
    zLet (s.2.1.getD 4 0) fun n8 =>
    zLet (g0 15 0 81) fun n3 =>
    if n7 ≥ n3 then
      .inr (0, (-1), g1)
    else
      if n8 = 0 then
        zLet (fn60 [n1 + 8 * n0, n7] g1) fun p1 =>
        zLet p1.2.2 fun g2 =>
        if 1 ≤ p1.2.1 then
          .inr (0, n7, g2)
        else
          zLet (g0 96 0 n7) fun n9 =>
          if 0 ≤ -n9 + (-1) then
            .inr (0, (-1), g2)
          else
            .inl (0, [n0, n1, n2, n9, n8], g2)
      else
        zLet (fn59 [n7] g1) fun p1 =>
        zLet p1.2.2 fun g2 =>
        if 1 ≤ p1.2.1 then
          zLet (fn60 [n1 + 8 * n0, n7] g2) fun p2 =>
          zLet p2.2.2 fun g3 =>
          if 1 ≤ p2.2.1 then
            .inr (0, n7, g3)
          else
            zLet (g0 96 0 n7) fun n9 =>
            if 0 ≤ -n9 + (-1) then
              .inr (0, (-1), g3)
            else
              .inl (0, [n0, n1, n2, n9, n8], g3)
        else
          zLet (g0 96 0 n7) fun n9 =>
          if 0 ≤ -n9 + (-1) then
            .inr (0, (-1), g2)
          else
            .inl (0, [n0, n1, n2, n9, n8], g2)
  else .inr (0, 0, g0)
noncomputable def fn62 (x : List Int) (g : rHp) : zR := zGoo (en62 g) (dn62 x g)
noncomputable def sn62 : zSpc := fun a g o v g_q => (o, v, g_q) = fn62 [a.getD 0 0, a.getD 1 0, a.getD 2 0] g
noncomputable def pl62 : Nat → List Int → List Int
  | 0, vs => [vs.getD 0 0, vs.getD 1 0, vs.getD 2 0, vs.getD 7 0, vs.getD 8 0]
  | _, _ => []
noncomputable def jn62 : List Int → rHp → Nat → List Int → rHp → Prop := fun a g i vs g1 => fn62 [a.getD 0 0, a.getD 1 0, a.getD 2 0] g = zLoop (en62 g) (i, pl62 i vs, g1)
noncomputable def dn63 (x : List Int) (g0 : rHp) : zSt :=
  zLet (x.getD 0 0) fun n0 =>
  zLet (x.getD 1 0) fun n1 =>
  zLet (g0 78 0 n0) fun n2 =>
  zLet (g0 66 0 n2) fun n3 =>
  .inl (0, [n0, n1, 0, n3], g0)
noncomputable def en63 (g0 : rHp) (s : Nat × List Int × rHp) : zSt :=
  if s.1 = 0 then
    zLet s.2.2 fun g1 =>
    zLet (s.2.1.getD 0 0) fun n0 =>
    zLet (s.2.1.getD 1 0) fun n1 =>
    zLet (s.2.1.getD 2 0) fun n2 =>
    zLet (s.2.1.getD 3 0) fun n3 =>
    if n2 ≥ n3 then
      .inr (0, 0, g1)
    else
      zLet (g0 80 0 (n2 + 4 * n0)) fun n4 =>
      if n4 ≠ 1 then
        .inl (0, [n0, n1, n2 + 1, n3], g1)
      else
        zLet (g0 81 0 (n2 + 4 * n0)) fun n5 =>
        zLet (g0 99 0 (n2 + 4 * n1)) fun n6 =>
        zLet (rUp g1 103 0 n5 n6) fun g2 =>
        .inl (0, [n0, n1, n2 + 1, n3], g2)
  else .inr (0, 0, g0)
noncomputable def fn63 (x : List Int) (g : rHp) : zR := zGoo (en63 g) (dn63 x g)
noncomputable def sn63 : zSpc := fun a g o v g_q => (o, v, g_q) = fn63 [a.getD 0 0, a.getD 1 0] g
noncomputable def pl63 : Nat → List Int → List Int
  | 0, vs => [vs.getD 0 0, vs.getD 1 0, vs.getD 2 0, vs.getD 3 0]
  | _, _ => []
noncomputable def jn63 : List Int → rHp → Nat → List Int → rHp → Prop := fun a g i vs g1 => fn63 [a.getD 0 0, a.getD 1 0] g = zLoop (en63 g) (i, pl63 i vs, g1)
noncomputable def dn64 (x : List Int) (g0 : rHp) : zSt :=
  zLet (x.getD 0 0) fun n0 =>
  zLet (g0 77 0 n0) fun n1 =>
  if 0 ≤ -n1 + 1 then
    zLet (g0 78 0 n0) fun n5 =>
    zLet (g0 100 0 n5) fun n6 =>
    if 0 ≤ -n6 + (-1) then
      .inr (0, 1, g0)
    else
      .inl (0, [n0, n6], g0)
  else
    if 0 ≤ -n1 + 2 then
      zLet (fn58 [4 * n0] g0) fun p0 =>
      zLet p0.2.2 fun g1 =>
      zLet (p0.2.1) fun n5 =>
      zLet (fn58 [4 * n0 + 1] g1) fun p1 =>
      zLet p1.2.2 fun g2 =>
      zLet (p1.2.1) fun n6 =>
      zLet (fn55 [n5] g2) fun p2 =>
      zLet p2.2.2 fun g3 =>
      if 1 ≤ p2.2.1 then
        zLet (fn55 [n6] g3) fun p3 =>
        zLet p3.2.2 fun g4 =>
        if 1 ≤ p3.2.1 then
          if n5 ≥ n6 then
            .inr (0, 0, g4)
          else
            .inr (0, 1, g4)
        else
          .inr (0, 0, g4)
      else
        .inr (0, 0, g3)
    else
      if 0 ≤ -n1 + 3 then
        zLet (fn58 [4 * n0] g0) fun p0 =>
        zLet p0.2.2 fun g1 =>
        zLet (p0.2.1) fun n5 =>
        zLet (fn58 [4 * n0 + 1] g1) fun p1 =>
        zLet p1.2.2 fun g2 =>
        zLet (p1.2.1) fun n6 =>
        if n5 ≠ n6 then
          .inr (0, 0, g2)
        else
          .inr (0, 1, g2)
      else
        zLet (fn58 [4 * n0] g0) fun p0 =>
        zLet p0.2.2 fun g1 =>
        zLet (p0.2.1) fun n5 =>
        zLet (fn58 [4 * n0 + 1] g1) fun p1 =>
        zLet p1.2.2 fun g2 =>
        zLet (p1.2.1) fun n6 =>
        if n5 = n6 then
          .inr (0, 0, g2)
        else
          .inr (0, 1, g2)
noncomputable def en64 (g0 : rHp) (s : Nat × List Int × rHp) : zSt :=
  if s.1 = 0 then
    zLet s.2.2 fun g1 =>
    zLet (s.2.1.getD 0 0) fun n0 =>
    zLet (s.2.1.getD 1 0) fun n5 =>
    zLet (g0 15 0 81) fun n3 =>
    if n5 ≥ n3 then
      .inr (0, 1, g1)
    else
      zLet (fn60 [n0, n5] g1) fun p1 =>
      zLet p1.2.2 fun g2 =>
      if 1 ≤ p1.2.1 then
        .inr (0, 0, g2)
      else
        zLet (g0 96 0 n5) fun n6 =>
        if 0 ≤ -n6 + (-1) then
          .inr (0, 1, g2)
        else
          .inl (0, [n0, n6], g2)
  else .inr (0, 0, g0)
noncomputable def fn64 (x : List Int) (g : rHp) : zR := zGoo (en64 g) (dn64 x g)
noncomputable def sn64 : zSpc := fun a g o v g_q => (o, v, g_q) = fn64 [a.getD 0 0] g
noncomputable def pl64 : Nat → List Int → List Int
  | 0, vs => [vs.getD 0 0, vs.getD 5 0]
  | _, _ => []
noncomputable def jn64 : List Int → rHp → Nat → List Int → rHp → Prop := fun a g i vs g1 => fn64 [a.getD 0 0] g = zLoop (en64 g) (i, pl64 i vs, g1)
noncomputable def fn65 (x : List Int) (g0 : rHp) : zR :=
  zLet (x.getD 0 0) fun n0 =>
  zLet (g0 77 0 n0) fun n1 =>
  zLet (g0 81 0 (4 * n0)) fun n2 =>
  zLet (fn58 [4 * n0] g0) fun p0 =>
  zLet p0.2.2 fun g1 =>
  zLet (fn58 [4 * n0 + 1] g1) fun p1 =>
  zLet p1.2.2 fun g2 =>
  zLet (p1.2.1) fun n6 =>
  zLet (fn58 [4 * n0 + 2] g2) fun p2 =>
  zLet p2.2.2 fun g3 =>
  zLet (p2.2.1) fun n7 =>
  zLet (fn55 [n6] g3) fun p3 =>
  zLet p3.2.2 fun g4 =>
  if 1 ≤ p3.2.1 then
    zLet (fn55 [n7] g4) fun p4 =>
    zLet p4.2.2 fun g5 =>
    if 1 ≤ p4.2.1 then
      if n1 ≠ 5 then
        if n1 ≠ 6 then
          zLet (zF2 .lmul n6 n7) fun n8 =>
          if n8 < (-100000000) then
            (0, 0, g5)
          else
            if n8 ≤ 100000000 then
              zLet (rUp g5 103 0 n2 n8) fun g6 =>
              (0, 1, g6)
            else
              (0, 0, g5)
        else
          if -n7 + n6 < (-100000000) then
            (0, 0, g5)
          else
            if -n7 + n6 ≤ 100000000 then
              zLet (rUp g5 103 0 n2 (-n7 + n6)) fun g6 =>
              (0, 1, g6)
            else
              (0, 0, g5)
      else
        if n7 + n6 < (-100000000) then
          (0, 0, g5)
        else
          if n7 + n6 ≤ 100000000 then
            zLet (rUp g5 103 0 n2 (n7 + n6)) fun g6 =>
            (0, 1, g6)
          else
            (0, 0, g5)
    else
      (0, 0, g5)
  else
    (0, 0, g4)
noncomputable def sn65 : zSpc := fun a g o v g_q => (o, v, g_q) = fn65 [a.getD 0 0] g
noncomputable def fn66 (x : List Int) (g0 : rHp) : zR :=
  zLet (g0 15 0 94) fun n0 =>
  if n0 ≥ 100 then
    zLet (rUp g0 15 0 94 (n0 + 1)) fun g1 =>
    (0, 0, g1)
  else
    zLet (g0 103 0 0) fun n1 =>
    zLet (rUp g0 111 0 (8 * n0) n1) fun g1 =>
    zLet (g0 103 0 1) fun n2 =>
    zLet (rUp g1 111 0 (8 * n0 + 1) n2) fun g2 =>
    zLet (g0 103 0 2) fun n3 =>
    zLet (rUp g2 111 0 (8 * n0 + 2) n3) fun g3 =>
    zLet (g0 103 0 3) fun n4 =>
    zLet (rUp g3 111 0 (8 * n0 + 3) n4) fun g4 =>
    zLet (g0 103 0 4) fun n5 =>
    zLet (rUp g4 111 0 (8 * n0 + 4) n5) fun g5 =>
    zLet (g0 103 0 5) fun n6 =>
    zLet (rUp g5 111 0 (8 * n0 + 5) n6) fun g6 =>
    zLet (g0 103 0 6) fun n7 =>
    zLet (rUp g6 111 0 (8 * n0 + 6) n7) fun g7 =>
    zLet (g0 103 0 7) fun n8 =>
    zLet (rUp g7 111 0 (8 * n0 + 7) n8) fun g8 =>
    zLet (rUp g8 15 0 94 (n0 + 1)) fun g9 =>
    (0, 0, g9)
noncomputable def sn66 : zSpc := fun a g o v g_q => (o, v, g_q) = fn66 [] g
noncomputable def dn67 (x : List Int) (g0 : rHp) : zSt :=
  zLet (x.getD 0 0) fun n0 =>
  .inl (0, [n0, 0], g0)
noncomputable def en67 (g0 : rHp) (s : Nat × List Int × rHp) : zSt :=
  if s.1 = 0 then
    zLet s.2.2 fun g1 =>
    zLet (s.2.1.getD 0 0) fun n0 =>
    zLet (s.2.1.getD 1 0) fun n2 =>
    if n2 ≥ 4 then
      .inr (0, 0, g1)
    else
      zLet (g0 69 0 n0) fun n3 =>
      zLet (g0 66 0 n3) fun n4 =>
      if n2 ≥ n4 then
        zLet (rUp g1 102 0 n2 0) fun g2 =>
        .inl (0, [n0, n2 + 1], g2)
      else
        zLet (g0 70 0 (n2 + 4 * n0)) fun n5 =>
        if n5 ≠ 3 then
          if n5 ≠ 1 then
            zLet (g0 76 0 (n2 + 4 * n0)) fun n6 =>
            zLet (rUp g1 102 0 n2 n6) fun g2 =>
            .inl (0, [n0, n2 + 1], g2)
          else
            zLet (g0 76 0 (n2 + 4 * n0)) fun n6 =>
            zLet (g0 103 0 n6) fun n7 =>
            zLet (rUp g1 102 0 n2 n7) fun g2 =>
            .inl (0, [n0, n2 + 1], g2)
        else
          zLet (rUp g1 102 0 n2 0) fun g2 =>
          .inl (0, [n0, n2 + 1], g2)
  else .inr (0, 0, g0)
noncomputable def fn67 (x : List Int) (g : rHp) : zR := zGoo (en67 g) (dn67 x g)
noncomputable def sn67 : zSpc := fun a g o v g_q => (o, v, g_q) = fn67 [a.getD 0 0] g
noncomputable def pl67 : Nat → List Int → List Int
  | 0, vs => [vs.getD 0 0, vs.getD 2 0]
  | _, _ => []
noncomputable def jn67 : List Int → rHp → Nat → List Int → rHp → Prop := fun a g i vs g1 => fn67 [a.getD 0 0] g = zLoop (en67 g) (i, pl67 i vs, g1)
noncomputable def fn68 (x : List Int) (g0 : rHp) : zR :=
  zLet (x.getD 0 0) fun n0 =>
  zLet (g0 69 0 n0) fun n3 =>
  zLet (fn67 [n0] g0) fun p0 =>
  zLet p0.2.2 fun g1 =>
  zLet (fn57 [n3, n0] g1) fun p1 =>
  zLet p1.2.2 fun g2 =>
  (0, 0, g2)
noncomputable def sn68 : zSpc := fun a g o v g_q => (o, v, g_q) = fn68 [a.getD 0 0] g
noncomputable def dn69 (x : List Int) (g0 : rHp) : zSt :=
  zLet (x.getD 0 0) fun n0 =>
  .inl (0, [n0, 0], g0)
noncomputable def en69 (g0 : rHp) (s : Nat × List Int × rHp) : zSt :=
  if s.1 = 0 then
    zLet s.2.2 fun g1 =>
    zLet (s.2.1.getD 0 0) fun n0 =>
    zLet (s.2.1.getD 1 0) fun n1 =>
    if n1 ≥ 4 then
      .inr (0, 1, g1)
    else
      zLet (g0 105 0 (n1 + 4 * n0)) fun n2 =>
      zLet (g0 102 0 n1) fun n3 =>
      if n2 = n3 then
        .inl (0, [n0, n1 + 1], g1)
      else
        .inr (0, 0, g1)
  else .inr (0, 0, g0)
noncomputable def fn69 (x : List Int) (g : rHp) : zR := zGoo (en69 g) (dn69 x g)
noncomputable def sn69 : zSpc := fun a g o v g_q => (o, v, g_q) = fn69 [a.getD 0 0] g
noncomputable def pl69 : Nat → List Int → List Int
  | 0, vs => [vs.getD 0 0, vs.getD 1 0]
  | _, _ => []
noncomputable def jn69 : List Int → rHp → Nat → List Int → rHp → Prop := fun a g i vs g1 => fn69 [a.getD 0 0] g = zLoop (en69 g) (i, pl69 i vs, g1)
noncomputable def dn70 (x : List Int) (g0 : rHp) : zSt :=
  zLet (x.getD 0 0) fun n0 =>
  zLet (fn67 [n0] g0) fun p0 =>
  zLet p0.2.2 fun g1 =>
  .inl (0, [n0, 0], g1)
noncomputable def en70 (g0 : rHp) (s : Nat × List Int × rHp) : zSt :=
  if s.1 = 0 then
    zLet s.2.2 fun g1 =>
    zLet (s.2.1.getD 0 0) fun n0 =>
    zLet (s.2.1.getD 1 0) fun n5 =>
    zLet (g0 71 0 n0) fun n1 =>
    zLet (g0 15 0 90) fun n3 =>
    if n5 ≥ n3 then
      if n5 ≠ 2000 then
        .inl (1, [n0, 0, n5], g1)
      else
        zLet (rUp g1 15 0 77 3) fun g2 =>
        .inr (0, 0, g2)
    else
      zLet (fn69 [n5] g1) fun p1 =>
      zLet p1.2.2 fun g2 =>
      if 1 ≤ p1.2.1 then
        if n5 ≠ 2000 then
          zLet (g0 106 0 n5) fun n6 =>
          zLet (zF2 .iadd n6 1) fun n7 =>
          zLet (rUp g2 106 0 n5 n7) fun g3 =>
          if n1 ≠ 1 then
            zLet (g0 72 0 n0) fun n8 =>
            zLet (g0 103 0 n8) fun n9 =>
            zLet (fn55 [n9] g3) fun p3 =>
            zLet p3.2.2 fun g4 =>
            if 1 ≤ p3.2.1 then
              zLet (g0 107 0 n5) fun n10 =>
              zLet (zF1 .l2i n9) fun n11 =>
              zLet (zF2 .iadd n10 n11) fun n12 =>
              zLet (rUp g4 107 0 n5 n12) fun g5 =>
              zLet (g0 109 0 n5) fun n13 =>
              if n13 = 0 then
                zLet (rUp g5 108 0 n5 n9) fun g6 =>
                zLet (rUp g6 109 0 n5 1) fun g7 =>
                .inr (0, 0, g7)
              else
                if n1 ≠ 3 then
                  zLet (g0 108 0 n5) fun n14 =>
                  if n9 ≤ n14 then
                    zLet (rUp g5 109 0 n5 1) fun g6 =>
                    .inr (0, 0, g6)
                  else
                    zLet (rUp g5 108 0 n5 n9) fun g6 =>
                    zLet (rUp g6 109 0 n5 1) fun g7 =>
                    .inr (0, 0, g7)
                else
                  zLet (g0 108 0 n5) fun n14 =>
                  if n9 ≥ n14 then
                    zLet (rUp g5 109 0 n5 1) fun g6 =>
                    .inr (0, 0, g6)
                  else
                    zLet (rUp g5 108 0 n5 n9) fun g6 =>
                    zLet (rUp g6 109 0 n5 1) fun g7 =>
                    .inr (0, 0, g7)
            else
              .inr (0, 0, g4)
          else
            .inr (0, 0, g3)
        else
          zLet (rUp g2 15 0 77 3) fun g3 =>
          .inr (0, 0, g3)
      else
        .inl (0, [n0, n5 + 1], g2)
  else if s.1 = 1 then
    zLet s.2.2 fun g1 =>
    zLet (s.2.1.getD 0 0) fun n0 =>
    zLet (s.2.1.getD 1 0) fun n5 =>
    zLet (s.2.1.getD 2 0) fun n6 =>
    zLet (g0 71 0 n0) fun n1 =>
    zLet (g0 15 0 90) fun n3 =>
    if n5 ≥ 4 then
      zLet (rUp g1 106 0 n6 0) fun g2 =>
      zLet (rUp g2 107 0 n6 0) fun g3 =>
      zLet (rUp g3 109 0 n6 0) fun g4 =>
      zLet (rUp g4 15 0 90 (n3 + 1)) fun g5 =>
      zLet (rUp g5 106 0 n6 1) fun g6 =>
      if n1 ≠ 1 then
        zLet (g0 72 0 n0) fun n7 =>
        zLet (g0 103 0 n7) fun n8 =>
        zLet (fn55 [n8] g6) fun p6 =>
        zLet p6.2.2 fun g7 =>
        if 1 ≤ p6.2.1 then
          zLet (zF1 .l2i n8) fun n9 =>
          zLet (rUp g7 107 0 n6 n9) fun g8 =>
          zLet (rUp g8 108 0 n6 n8) fun g9 =>
          zLet (rUp g9 109 0 n6 1) fun g10 =>
          .inr (0, 0, g10)
        else
          .inr (0, 0, g7)
      else
        .inr (0, 0, g6)
    else
      zLet (g1 102 0 n5) fun n7 =>
      zLet (rUp g1 105 0 (4 * n6 + n5) n7) fun g2 =>
      .inl (1, [n0, n5 + 1, n6], g2)
  else .inr (0, 0, g0)
noncomputable def fn70 (x : List Int) (g : rHp) : zR := zGoo (en70 g) (dn70 x g)
noncomputable def sn70 : zSpc := fun a g o v g_q => (o, v, g_q) = fn70 [a.getD 0 0] g
noncomputable def pl70 : Nat → List Int → List Int
  | 0, vs => [vs.getD 0 0, vs.getD 5 0]
  | 1, vs => [vs.getD 0 0, vs.getD 5 0, vs.getD 6 0]
  | _, _ => []
noncomputable def jn70 : List Int → rHp → Nat → List Int → rHp → Prop := fun a g i vs g1 => fn70 [a.getD 0 0] g = zLoop (en70 g) (i, pl70 i vs, g1)
noncomputable def dn71 (x : List Int) (g0 : rHp) : zSt :=
  zLet (x.getD 0 0) fun n0 =>
  .inl (0, [n0, 0, 0], g0)
noncomputable def en71 (g0 : rHp) (s : Nat × List Int × rHp) : zSt :=
  if s.1 = 0 then
    zLet s.2.2 fun g1 =>
    zLet (s.2.1.getD 0 0) fun n0 =>
    zLet (s.2.1.getD 1 0) fun n2 =>
    zLet (s.2.1.getD 2 0) fun n3 =>
    zLet (g0 73 0 n0) fun n1 =>
    if n2 ≥ n1 then
      .inr (0, n3, g1)
    else
      zLet (g0 77 0 (n2 + 8 * n0)) fun n4 =>
      if n4 ≠ 0 then
        .inl (0, [n0, n2 + 1, n3], g1)
      else
        .inl (0, [n0, n2 + 1, n3 + 1], g1)
  else .inr (0, 0, g0)
noncomputable def fn71 (x : List Int) (g : rHp) : zR := zGoo (en71 g) (dn71 x g)
noncomputable def sn71 : zSpc := fun a g o v g_q => (o, v, g_q) = fn71 [a.getD 0 0] g
noncomputable def pl71 : Nat → List Int → List Int
  | 0, vs => [vs.getD 0 0, vs.getD 2 0, vs.getD 3 0]
  | _, _ => []
noncomputable def jn71 : List Int → rHp → Nat → List Int → rHp → Prop := fun a g i vs g1 => fn71 [a.getD 0 0] g = zLoop (en71 g) (i, pl71 i vs, g1)
noncomputable def dn72 (x : List Int) (g0 : rHp) : zSt :=
  zLet (x.getD 0 0) fun n0 =>
  .inl (0, [n0, 0], g0)
noncomputable def en72 (g0 : rHp) (s : Nat × List Int × rHp) : zSt :=
  if s.1 = 0 then
    zLet s.2.2 fun g1 =>
    zLet (s.2.1.getD 0 0) fun n0 =>
    zLet (s.2.1.getD 1 0) fun n13 =>
    zLet (g0 73 0 n0) fun n1 =>
    zLet (g1 15 0 72) fun n14 =>
    zLet (g1 15 0 77) fun n15 =>
    if n15 ≠ 0 then
      .inr (0, 0, g1)
    else
      if n13 ≠ n1 then
        zLet (g0 77 0 (n13 + 8 * n0)) fun n17 =>
        if 0 ≤ -n17 + 4 then
          if n17 = 0 then
            zLet (g0 78 0 (n13 + 8 * n0)) fun n18 =>
            zLet (g1 100 0 n18) fun n19 =>
            zLet (fn62 [n0, n13, n19] g1) fun p1 =>
            zLet p1.2.2 fun g2 =>
            zLet (p1.2.1) fun n20 =>
            if n20 ≥ 0 then
              zLet (rUp g2 15 0 72 (n14 + 1)) fun g3 =>
              if n14 + 1 ≤ 50000 then
                zLet (rUp g3 104 0 n13 n20) fun g4 =>
                zLet (fn63 [n13 + 8 * n0, n20] g4) fun p4 =>
                zLet p4.2.2 fun g5 =>
                .inl (0, [n0, n13 + 1], g5)
              else
                zLet (rUp g3 15 0 77 2) fun g4 =>
                zLet (rUp g4 104 0 n13 n20) fun g5 =>
                zLet (fn63 [n13 + 8 * n0, n20] g5) fun p5 =>
                zLet p5.2.2 fun g6 =>
                .inl (0, [n0, n13 + 1], g6)
            else
              .inl (1, [n0, n13 + (-1), n13 + 8 * n0], g2)
          else
            zLet (fn64 [n13 + 8 * n0] g1) fun p1 =>
            zLet p1.2.2 fun g2 =>
            if 1 ≤ p1.2.1 then
              .inl (0, [n0, n13 + 1], g2)
            else
              .inl (1, [n0, n13 + (-1), n13 + 8 * n0], g2)
        else
          zLet (fn65 [n13 + 8 * n0] g1) fun p1 =>
          zLet p1.2.2 fun g2 =>
          if 1 ≤ p1.2.1 then
            .inl (0, [n0, n13 + 1], g2)
          else
            .inl (1, [n0, n13 + (-1), n13 + 8 * n0], g2)
      else
        zLet (fn68 [n0] g1) fun p1 =>
        zLet p1.2.2 fun g2 =>
        .inl (1, [n0, n13 + (-1), n13 + 8 * n0], g2)
  else if s.1 = 1 then
    zLet s.2.2 fun g1 =>
    zLet (s.2.1.getD 0 0) fun n0 =>
    zLet (s.2.1.getD 1 0) fun n13 =>
    zLet (g1 15 0 72) fun n15 =>
    zLet (g1 15 0 77) fun n16 =>
    if n13 < 0 then
      .inr (0, 0, g1)
    else
      if n16 ≠ 0 then
        .inr (0, 0, g1)
      else
        zLet (g0 77 0 (n13 + 8 * n0)) fun n18 =>
        if 0 ≤ -n18 + 4 then
          if n18 = 0 then
            zLet (g1 104 0 n13) fun n19 =>
            zLet (g1 96 0 n19) fun n20 =>
            zLet (fn62 [n0, n13, n20] g1) fun p1 =>
            zLet p1.2.2 fun g2 =>
            zLet (p1.2.1) fun n21 =>
            if n21 ≥ 0 then
              zLet (rUp g2 15 0 72 (n15 + 1)) fun g3 =>
              if n15 + 1 ≤ 50000 then
                zLet (rUp g3 104 0 n13 n21) fun g4 =>
                zLet (fn63 [n13 + 8 * n0, n21] g4) fun p4 =>
                zLet p4.2.2 fun g5 =>
                .inl (0, [n0, n13 + 1], g5)
              else
                zLet (rUp g3 15 0 77 2) fun g4 =>
                zLet (rUp g4 104 0 n13 n21) fun g5 =>
                zLet (fn63 [n13 + 8 * n0, n21] g5) fun p5 =>
                zLet p5.2.2 fun g6 =>
                .inl (0, [n0, n13 + 1], g6)
            else
              .inl (1, [n0, n13 + (-1), n13 + 8 * n0], g2)
          else
            .inl (1, [n0, n13 + (-1), n13 + 8 * n0], g1)
        else
          .inl (1, [n0, n13 + (-1), n13 + 8 * n0], g1)
  else .inr (0, 0, g0)
noncomputable def fn72 (x : List Int) (g : rHp) : zR := zGoo (en72 g) (dn72 x g)
noncomputable def sn72 : zSpc := fun a g o v g_q => (o, v, g_q) = fn72 [a.getD 0 0] g
noncomputable def pl72 : Nat → List Int → List Int
  | 0, vs => [vs.getD 0 0, vs.getD 13 0]
  | 1, vs => [vs.getD 0 0, vs.getD 13 0, vs.getD 14 0]
  | _, _ => []
noncomputable def jn72 : List Int → rHp → Nat → List Int → rHp → Prop := fun a g i vs g1 => fn72 [a.getD 0 0] g = zLoop (en72 g) (i, pl72 i vs, g1)
noncomputable def dn73 (x : List Int) (g0 : rHp) : zSt :=
  zLet (x.getD 0 0) fun n0 =>
  .inl (0, [n0, 0], g0)
noncomputable def en73 (g0 : rHp) (s : Nat × List Int × rHp) : zSt :=
  if s.1 = 0 then
    zLet s.2.2 fun g1 =>
    zLet (s.2.1.getD 0 0) fun n0 =>
    zLet (s.2.1.getD 1 0) fun n13 =>
    zLet (g0 73 0 n0) fun n1 =>
    zLet (g1 15 0 72) fun n14 =>
    zLet (g1 15 0 77) fun n15 =>
    if n15 ≠ 0 then
      .inr (0, 0, g1)
    else
      if n13 ≠ n1 then
        zLet (g0 77 0 (n13 + 8 * n0)) fun n17 =>
        if 0 ≤ -n17 + 4 then
          if n17 = 0 then
            zLet (g0 78 0 (n13 + 8 * n0)) fun n18 =>
            zLet (g0 100 0 n18) fun n19 =>
            zLet (fn62 [n0, n13, n19] g1) fun p1 =>
            zLet p1.2.2 fun g2 =>
            zLet (p1.2.1) fun n20 =>
            if n20 ≥ 0 then
              zLet (rUp g2 15 0 72 (n14 + 1)) fun g3 =>
              if n14 + 1 ≤ 50000 then
                zLet (rUp g3 104 0 n13 n20) fun g4 =>
                zLet (fn63 [n13 + 8 * n0, n20] g4) fun p4 =>
                zLet p4.2.2 fun g5 =>
                .inl (0, [n0, n13 + 1], g5)
              else
                zLet (rUp g3 15 0 77 2) fun g4 =>
                zLet (rUp g4 104 0 n13 n20) fun g5 =>
                zLet (fn63 [n13 + 8 * n0, n20] g5) fun p5 =>
                zLet p5.2.2 fun g6 =>
                .inl (0, [n0, n13 + 1], g6)
            else
              .inl (1, [n0, n13 + (-1), n13 + 8 * n0], g2)
          else
            zLet (fn64 [n13 + 8 * n0] g1) fun p1 =>
            zLet p1.2.2 fun g2 =>
            if 1 ≤ p1.2.1 then
              .inl (0, [n0, n13 + 1], g2)
            else
              .inl (1, [n0, n13 + (-1), n13 + 8 * n0], g2)
        else
          zLet (fn65 [n13 + 8 * n0] g1) fun p1 =>
          zLet p1.2.2 fun g2 =>
          if 1 ≤ p1.2.1 then
            .inl (0, [n0, n13 + 1], g2)
          else
            .inl (1, [n0, n13 + (-1), n13 + 8 * n0], g2)
      else
        zLet (fn70 [n0] g1) fun p1 =>
        zLet p1.2.2 fun g2 =>
        .inl (1, [n0, n13 + (-1), n13 + 8 * n0], g2)
  else if s.1 = 1 then
    zLet s.2.2 fun g1 =>
    zLet (s.2.1.getD 0 0) fun n0 =>
    zLet (s.2.1.getD 1 0) fun n13 =>
    zLet (g1 15 0 72) fun n15 =>
    zLet (g1 15 0 77) fun n16 =>
    if n13 < 0 then
      .inr (0, 0, g1)
    else
      if n16 ≠ 0 then
        .inr (0, 0, g1)
      else
        zLet (g0 77 0 (n13 + 8 * n0)) fun n18 =>
        if 0 ≤ -n18 + 4 then
          if n18 = 0 then
            zLet (g1 104 0 n13) fun n19 =>
            zLet (g0 96 0 n19) fun n20 =>
            zLet (fn62 [n0, n13, n20] g1) fun p1 =>
            zLet p1.2.2 fun g2 =>
            zLet (p1.2.1) fun n21 =>
            if n21 ≥ 0 then
              zLet (rUp g2 15 0 72 (n15 + 1)) fun g3 =>
              if n15 + 1 ≤ 50000 then
                zLet (rUp g3 104 0 n13 n21) fun g4 =>
                zLet (fn63 [n13 + 8 * n0, n21] g4) fun p4 =>
                zLet p4.2.2 fun g5 =>
                .inl (0, [n0, n13 + 1], g5)
              else
                zLet (rUp g3 15 0 77 2) fun g4 =>
                zLet (rUp g4 104 0 n13 n21) fun g5 =>
                zLet (fn63 [n13 + 8 * n0, n21] g5) fun p5 =>
                zLet p5.2.2 fun g6 =>
                .inl (0, [n0, n13 + 1], g6)
            else
              .inl (1, [n0, n13 + (-1), n13 + 8 * n0], g2)
          else
            .inl (1, [n0, n13 + (-1), n13 + 8 * n0], g1)
        else
          .inl (1, [n0, n13 + (-1), n13 + 8 * n0], g1)
  else .inr (0, 0, g0)
noncomputable def fn73 (x : List Int) (g : rHp) : zR := zGoo (en73 g) (dn73 x g)
noncomputable def sn73 : zSpc := fun a g o v g_q => (o, v, g_q) = fn73 [a.getD 0 0] g
noncomputable def pl73 : Nat → List Int → List Int
  | 0, vs => [vs.getD 0 0, vs.getD 13 0]
  | 1, vs => [vs.getD 0 0, vs.getD 13 0, vs.getD 14 0]
  | _, _ => []
noncomputable def jn73 : List Int → rHp → Nat → List Int → rHp → Prop := fun a g i vs g1 => fn73 [a.getD 0 0] g = zLoop (en73 g) (i, pl73 i vs, g1)
noncomputable def dn74 (x : List Int) (g0 : rHp) : zSt :=
  .inl (0, [0], g0)
noncomputable def en74 (g0 : rHp) (s : Nat × List Int × rHp) : zSt :=
  if s.1 = 0 then
    zLet s.2.2 fun g1 =>
    zLet (s.2.1.getD 0 0) fun n9 =>
    zLet (g0 73 0 61) fun n0 =>
    zLet (g1 15 0 72) fun n10 =>
    zLet (g1 15 0 77) fun n11 =>
    if n11 ≠ 0 then
      .inr (0, 0, g1)
    else
      if n9 ≠ n0 then
        zLet (g0 77 0 (n9 + 488)) fun n13 =>
        if 0 ≤ -n13 + 4 then
          if n13 = 0 then
            zLet (g0 78 0 (n9 + 488)) fun n14 =>
            zLet (g0 100 0 n14) fun n15 =>
            zLet (fn62 [61, n9, n15] g1) fun p1 =>
            zLet p1.2.2 fun g2 =>
            zLet (p1.2.1) fun n16 =>
            if n16 ≥ 0 then
              zLet (rUp g2 15 0 72 (n10 + 1)) fun g3 =>
              if n10 + 1 ≤ 50000 then
                zLet (rUp g3 104 0 n9 n16) fun g4 =>
                zLet (fn63 [n9 + 488, n16] g4) fun p4 =>
                zLet p4.2.2 fun g5 =>
                .inl (0, [n9 + 1], g5)
              else
                zLet (rUp g3 15 0 77 2) fun g4 =>
                zLet (rUp g4 104 0 n9 n16) fun g5 =>
                zLet (fn63 [n9 + 488, n16] g5) fun p5 =>
                zLet p5.2.2 fun g6 =>
                .inl (0, [n9 + 1], g6)
            else
              .inl (1, [n9 + (-1), n9 + 488], g2)
          else
            zLet (fn64 [n9 + 488] g1) fun p1 =>
            zLet p1.2.2 fun g2 =>
            if 1 ≤ p1.2.1 then
              .inl (0, [n9 + 1], g2)
            else
              .inl (1, [n9 + (-1), n9 + 488], g2)
        else
          zLet (fn65 [n9 + 488] g1) fun p1 =>
          zLet p1.2.2 fun g2 =>
          if 1 ≤ p1.2.1 then
            .inl (0, [n9 + 1], g2)
          else
            .inl (1, [n9 + (-1), n9 + 488], g2)
      else
        zLet (fn66 [] g1) fun p1 =>
        zLet p1.2.2 fun g2 =>
        .inl (1, [n9 + (-1), n9 + 488], g2)
  else if s.1 = 1 then
    zLet s.2.2 fun g1 =>
    zLet (s.2.1.getD 0 0) fun n9 =>
    zLet (g1 15 0 72) fun n11 =>
    if n9 < 0 then
      .inr (0, 0, g1)
    else
      zLet (g0 77 0 (n9 + 488)) fun n13 =>
      if 0 ≤ -n13 + 4 then
        if n13 = 0 then
          zLet (g1 104 0 n9) fun n14 =>
          zLet (g0 96 0 n14) fun n15 =>
          zLet (fn62 [61, n9, n15] g1) fun p1 =>
          zLet p1.2.2 fun g2 =>
          zLet (p1.2.1) fun n16 =>
          if n16 ≥ 0 then
            zLet (rUp g2 15 0 72 (n11 + 1)) fun g3 =>
            if n11 + 1 ≤ 50000 then
              zLet (rUp g3 104 0 n9 n16) fun g4 =>
              zLet (fn63 [n9 + 488, n16] g4) fun p4 =>
              zLet p4.2.2 fun g5 =>
              .inl (0, [n9 + 1], g5)
            else
              zLet (rUp g3 15 0 77 2) fun g4 =>
              zLet (rUp g4 104 0 n9 n16) fun g5 =>
              zLet (fn63 [n9 + 488, n16] g5) fun p5 =>
              zLet p5.2.2 fun g6 =>
              .inl (0, [n9 + 1], g6)
          else
            .inl (1, [n9 + (-1), n9 + 488], g2)
        else
          .inl (1, [n9 + (-1), n9 + 488], g1)
      else
        .inl (1, [n9 + (-1), n9 + 488], g1)
  else .inr (0, 0, g0)
noncomputable def fn74 (x : List Int) (g : rHp) : zR := zGoo (en74 g) (dn74 x g)
noncomputable def sn74 : zSpc := fun a g o v g_q => (o, v, g_q) = fn74 [] g
noncomputable def pl74 : Nat → List Int → List Int
  | 0, vs => [vs.getD 9 0]
  | 1, vs => [vs.getD 9 0, vs.getD 10 0]
  | _, _ => []
noncomputable def jn74 : List Int → rHp → Nat → List Int → rHp → Prop := fun a g i vs g1 => fn74 [] g = zLoop (en74 g) (i, pl74 i vs, g1)
noncomputable def dn75 (x : List Int) (g0 : rHp) : zSt :=
  zLet (x.getD 0 0) fun n0 =>
  zLet (g0 15 0 71) fun n9 =>
  zLet (rUp g0 15 0 90 0) fun g1 =>
  zLet (rUp g1 15 0 81 n9) fun g2 =>
  zLet (rUp g2 15 0 84 0) fun g3 =>
  zLet (fn73 [n0] g3) fun p3 =>
  zLet p3.2.2 fun g4 =>
  .inl (0, [n0, 0], g4)
noncomputable def en75 (g0 : rHp) (s : Nat × List Int × rHp) : zSt :=
  if s.1 = 0 then
    zLet s.2.2 fun g1 =>
    zLet (s.2.1.getD 0 0) fun n0 =>
    zLet (s.2.1.getD 1 0) fun n15 =>
    zLet (g0 71 0 n0) fun n3 =>
    zLet (g0 69 0 n0) fun n7 =>
    zLet (g1 15 0 77) fun n17 =>
    zLet (g1 15 0 90) fun n18 =>
    if n15 ≥ n18 then
      .inr (0, 0, g1)
    else
      if n17 ≠ 0 then
        .inr (0, 0, g1)
      else
        if n3 ≤ 2 then
          if n3 ≠ 1 then
            zLet (g1 107 0 n15) fun n20 =>
            zLet (g0 66 0 n7) fun n21 =>
            if 0 ≥ n21 then
              zLet (g1 105 0 (4 * n15)) fun n22 =>
              zLet (rUp g1 102 0 0 n22) fun g2 =>
              zLet (g1 105 0 (4 * n15 + 1)) fun n23 =>
              zLet (rUp g2 102 0 1 n23) fun g3 =>
              zLet (g1 105 0 (4 * n15 + 2)) fun n24 =>
              zLet (rUp g3 102 0 2 n24) fun g4 =>
              zLet (g1 105 0 (4 * n15 + 3)) fun n25 =>
              zLet (rUp g4 102 0 3 n25) fun g5 =>
              zLet (fn57 [n7, n0] g5) fun p5 =>
              zLet p5.2.2 fun g6 =>
              .inl (0, [n0, n15 + 1], g6)
            else
              zLet (g0 70 0 (4 * n0)) fun n22 =>
              if n22 ≠ 3 then
                zLet (g1 105 0 (4 * n15)) fun n23 =>
                zLet (rUp g1 102 0 0 n23) fun g2 =>
                if 1 ≥ n21 then
                  zLet (g1 105 0 (4 * n15 + 1)) fun n24 =>
                  zLet (rUp g2 102 0 1 n24) fun g3 =>
                  zLet (g1 105 0 (4 * n15 + 2)) fun n25 =>
                  zLet (rUp g3 102 0 2 n25) fun g4 =>
                  zLet (g1 105 0 (4 * n15 + 3)) fun n26 =>
                  zLet (rUp g4 102 0 3 n26) fun g5 =>
                  zLet (fn57 [n7, n0] g5) fun p5 =>
                  zLet p5.2.2 fun g6 =>
                  .inl (0, [n0, n15 + 1], g6)
                else
                  zLet (g0 70 0 (4 * n0 + 1)) fun n24 =>
                  if n24 ≠ 3 then
                    zLet (g1 105 0 (4 * n15 + 1)) fun n25 =>
                    zLet (rUp g2 102 0 1 n25) fun g3 =>
                    if 2 ≥ n21 then
                      zLet (g1 105 0 (4 * n15 + 2)) fun n26 =>
                      zLet (rUp g3 102 0 2 n26) fun g4 =>
                      zLet (g1 105 0 (4 * n15 + 3)) fun n27 =>
                      zLet (rUp g4 102 0 3 n27) fun g5 =>
                      zLet (fn57 [n7, n0] g5) fun p5 =>
                      zLet p5.2.2 fun g6 =>
                      .inl (0, [n0, n15 + 1], g6)
                    else
                      zLet (g0 70 0 (4 * n0 + 2)) fun n26 =>
                      if n26 ≠ 3 then
                        zLet (g1 105 0 (4 * n15 + 2)) fun n27 =>
                        zLet (rUp g3 102 0 2 n27) fun g4 =>
                        if 3 ≥ n21 then
                          zLet (g1 105 0 (4 * n15 + 3)) fun n28 =>
                          zLet (rUp g4 102 0 3 n28) fun g5 =>
                          zLet (fn57 [n7, n0] g5) fun p5 =>
                          zLet p5.2.2 fun g6 =>
                          .inl (0, [n0, n15 + 1], g6)
                        else
                          zLet (g0 70 0 (4 * n0 + 3)) fun n28 =>
                          if n28 ≠ 3 then
                            zLet (g1 105 0 (4 * n15 + 3)) fun n29 =>
                            zLet (rUp g4 102 0 3 n29) fun g5 =>
                            zLet (fn57 [n7, n0] g5) fun p5 =>
                            zLet p5.2.2 fun g6 =>
                            .inl (0, [n0, n15 + 1], g6)
                          else
                            zLet (rUp g4 102 0 3 n20) fun g5 =>
                            zLet (fn57 [n7, n0] g5) fun p5 =>
                            zLet p5.2.2 fun g6 =>
                            .inl (0, [n0, n15 + 1], g6)
                      else
                        zLet (rUp g3 102 0 2 n20) fun g4 =>
                        if 3 ≥ n21 then
                          zLet (g1 105 0 (4 * n15 + 3)) fun n27 =>
                          zLet (rUp g4 102 0 3 n27) fun g5 =>
                          zLet (fn57 [n7, n0] g5) fun p5 =>
                          zLet p5.2.2 fun g6 =>
                          .inl (0, [n0, n15 + 1], g6)
                        else
                          zLet (g0 70 0 (4 * n0 + 3)) fun n27 =>
                          if n27 ≠ 3 then
                            zLet (g1 105 0 (4 * n15 + 3)) fun n28 =>
                            zLet (rUp g4 102 0 3 n28) fun g5 =>
                            zLet (fn57 [n7, n0] g5) fun p5 =>
                            zLet p5.2.2 fun g6 =>
                            .inl (0, [n0, n15 + 1], g6)
                          else
                            zLet (rUp g4 102 0 3 n20) fun g5 =>
                            zLet (fn57 [n7, n0] g5) fun p5 =>
                            zLet p5.2.2 fun g6 =>
                            .inl (0, [n0, n15 + 1], g6)
                  else
                    zLet (rUp g2 102 0 1 n20) fun g3 =>
                    if 2 ≥ n21 then
                      zLet (g1 105 0 (4 * n15 + 2)) fun n25 =>
                      zLet (rUp g3 102 0 2 n25) fun g4 =>
                      zLet (g1 105 0 (4 * n15 + 3)) fun n26 =>
                      zLet (rUp g4 102 0 3 n26) fun g5 =>
                      zLet (fn57 [n7, n0] g5) fun p5 =>
                      zLet p5.2.2 fun g6 =>
                      .inl (0, [n0, n15 + 1], g6)
                    else
                      zLet (g0 70 0 (4 * n0 + 2)) fun n25 =>
                      if n25 ≠ 3 then
                        zLet (g1 105 0 (4 * n15 + 2)) fun n26 =>
                        zLet (rUp g3 102 0 2 n26) fun g4 =>
                        if 3 ≥ n21 then
                          zLet (g1 105 0 (4 * n15 + 3)) fun n27 =>
                          zLet (rUp g4 102 0 3 n27) fun g5 =>
                          zLet (fn57 [n7, n0] g5) fun p5 =>
                          zLet p5.2.2 fun g6 =>
                          .inl (0, [n0, n15 + 1], g6)
                        else
                          zLet (g0 70 0 (4 * n0 + 3)) fun n27 =>
                          if n27 ≠ 3 then
                            zLet (g1 105 0 (4 * n15 + 3)) fun n28 =>
                            zLet (rUp g4 102 0 3 n28) fun g5 =>
                            zLet (fn57 [n7, n0] g5) fun p5 =>
                            zLet p5.2.2 fun g6 =>
                            .inl (0, [n0, n15 + 1], g6)
                          else
                            zLet (rUp g4 102 0 3 n20) fun g5 =>
                            zLet (fn57 [n7, n0] g5) fun p5 =>
                            zLet p5.2.2 fun g6 =>
                            .inl (0, [n0, n15 + 1], g6)
                      else
                        zLet (rUp g3 102 0 2 n20) fun g4 =>
                        if 3 ≥ n21 then
                          zLet (g1 105 0 (4 * n15 + 3)) fun n26 =>
                          zLet (rUp g4 102 0 3 n26) fun g5 =>
                          zLet (fn57 [n7, n0] g5) fun p5 =>
                          zLet p5.2.2 fun g6 =>
                          .inl (0, [n0, n15 + 1], g6)
                        else
                          zLet (g0 70 0 (4 * n0 + 3)) fun n26 =>
                          if n26 ≠ 3 then
                            zLet (g1 105 0 (4 * n15 + 3)) fun n27 =>
                            zLet (rUp g4 102 0 3 n27) fun g5 =>
                            zLet (fn57 [n7, n0] g5) fun p5 =>
                            zLet p5.2.2 fun g6 =>
                            .inl (0, [n0, n15 + 1], g6)
                          else
                            zLet (rUp g4 102 0 3 n20) fun g5 =>
                            zLet (fn57 [n7, n0] g5) fun p5 =>
                            zLet p5.2.2 fun g6 =>
                            .inl (0, [n0, n15 + 1], g6)
              else
                zLet (rUp g1 102 0 0 n20) fun g2 =>
                if 1 ≥ n21 then
                  zLet (g1 105 0 (4 * n15 + 1)) fun n23 =>
                  zLet (rUp g2 102 0 1 n23) fun g3 =>
                  zLet (g1 105 0 (4 * n15 + 2)) fun n24 =>
                  zLet (rUp g3 102 0 2 n24) fun g4 =>
                  zLet (g1 105 0 (4 * n15 + 3)) fun n25 =>
                  zLet (rUp g4 102 0 3 n25) fun g5 =>
                  zLet (fn57 [n7, n0] g5) fun p5 =>
                  zLet p5.2.2 fun g6 =>
                  .inl (0, [n0, n15 + 1], g6)
                else
                  zLet (g0 70 0 (4 * n0 + 1)) fun n23 =>
                  if n23 ≠ 3 then
                    zLet (g1 105 0 (4 * n15 + 1)) fun n24 =>
                    zLet (rUp g2 102 0 1 n24) fun g3 =>
                    if 2 ≥ n21 then
                      zLet (g1 105 0 (4 * n15 + 2)) fun n25 =>
                      zLet (rUp g3 102 0 2 n25) fun g4 =>
                      zLet (g1 105 0 (4 * n15 + 3)) fun n26 =>
                      zLet (rUp g4 102 0 3 n26) fun g5 =>
                      zLet (fn57 [n7, n0] g5) fun p5 =>
                      zLet p5.2.2 fun g6 =>
                      .inl (0, [n0, n15 + 1], g6)
                    else
                      zLet (g0 70 0 (4 * n0 + 2)) fun n25 =>
                      if n25 ≠ 3 then
                        zLet (g1 105 0 (4 * n15 + 2)) fun n26 =>
                        zLet (rUp g3 102 0 2 n26) fun g4 =>
                        if 3 ≥ n21 then
                          zLet (g1 105 0 (4 * n15 + 3)) fun n27 =>
                          zLet (rUp g4 102 0 3 n27) fun g5 =>
                          zLet (fn57 [n7, n0] g5) fun p5 =>
                          zLet p5.2.2 fun g6 =>
                          .inl (0, [n0, n15 + 1], g6)
                        else
                          zLet (g0 70 0 (4 * n0 + 3)) fun n27 =>
                          if n27 ≠ 3 then
                            zLet (g1 105 0 (4 * n15 + 3)) fun n28 =>
                            zLet (rUp g4 102 0 3 n28) fun g5 =>
                            zLet (fn57 [n7, n0] g5) fun p5 =>
                            zLet p5.2.2 fun g6 =>
                            .inl (0, [n0, n15 + 1], g6)
                          else
                            zLet (rUp g4 102 0 3 n20) fun g5 =>
                            zLet (fn57 [n7, n0] g5) fun p5 =>
                            zLet p5.2.2 fun g6 =>
                            .inl (0, [n0, n15 + 1], g6)
                      else
                        zLet (rUp g3 102 0 2 n20) fun g4 =>
                        if 3 ≥ n21 then
                          zLet (g1 105 0 (4 * n15 + 3)) fun n26 =>
                          zLet (rUp g4 102 0 3 n26) fun g5 =>
                          zLet (fn57 [n7, n0] g5) fun p5 =>
                          zLet p5.2.2 fun g6 =>
                          .inl (0, [n0, n15 + 1], g6)
                        else
                          zLet (g0 70 0 (4 * n0 + 3)) fun n26 =>
                          if n26 ≠ 3 then
                            zLet (g1 105 0 (4 * n15 + 3)) fun n27 =>
                            zLet (rUp g4 102 0 3 n27) fun g5 =>
                            zLet (fn57 [n7, n0] g5) fun p5 =>
                            zLet p5.2.2 fun g6 =>
                            .inl (0, [n0, n15 + 1], g6)
                          else
                            zLet (rUp g4 102 0 3 n20) fun g5 =>
                            zLet (fn57 [n7, n0] g5) fun p5 =>
                            zLet p5.2.2 fun g6 =>
                            .inl (0, [n0, n15 + 1], g6)
                  else
                    zLet (rUp g2 102 0 1 n20) fun g3 =>
                    if 2 ≥ n21 then
                      zLet (g1 105 0 (4 * n15 + 2)) fun n24 =>
                      zLet (rUp g3 102 0 2 n24) fun g4 =>
                      zLet (g1 105 0 (4 * n15 + 3)) fun n25 =>
                      zLet (rUp g4 102 0 3 n25) fun g5 =>
                      zLet (fn57 [n7, n0] g5) fun p5 =>
                      zLet p5.2.2 fun g6 =>
                      .inl (0, [n0, n15 + 1], g6)
                    else
                      zLet (g0 70 0 (4 * n0 + 2)) fun n24 =>
                      if n24 ≠ 3 then
                        zLet (g1 105 0 (4 * n15 + 2)) fun n25 =>
                        zLet (rUp g3 102 0 2 n25) fun g4 =>
                        if 3 ≥ n21 then
                          zLet (g1 105 0 (4 * n15 + 3)) fun n26 =>
                          zLet (rUp g4 102 0 3 n26) fun g5 =>
                          zLet (fn57 [n7, n0] g5) fun p5 =>
                          zLet p5.2.2 fun g6 =>
                          .inl (0, [n0, n15 + 1], g6)
                        else
                          zLet (g0 70 0 (4 * n0 + 3)) fun n26 =>
                          if n26 ≠ 3 then
                            zLet (g1 105 0 (4 * n15 + 3)) fun n27 =>
                            zLet (rUp g4 102 0 3 n27) fun g5 =>
                            zLet (fn57 [n7, n0] g5) fun p5 =>
                            zLet p5.2.2 fun g6 =>
                            .inl (0, [n0, n15 + 1], g6)
                          else
                            zLet (rUp g4 102 0 3 n20) fun g5 =>
                            zLet (fn57 [n7, n0] g5) fun p5 =>
                            zLet p5.2.2 fun g6 =>
                            .inl (0, [n0, n15 + 1], g6)
                      else
                        zLet (rUp g3 102 0 2 n20) fun g4 =>
                        if 3 ≥ n21 then
                          zLet (g1 105 0 (4 * n15 + 3)) fun n25 =>
                          zLet (rUp g4 102 0 3 n25) fun g5 =>
                          zLet (fn57 [n7, n0] g5) fun p5 =>
                          zLet p5.2.2 fun g6 =>
                          .inl (0, [n0, n15 + 1], g6)
                        else
                          zLet (g0 70 0 (4 * n0 + 3)) fun n25 =>
                          if n25 ≠ 3 then
                            zLet (g1 105 0 (4 * n15 + 3)) fun n26 =>
                            zLet (rUp g4 102 0 3 n26) fun g5 =>
                            zLet (fn57 [n7, n0] g5) fun p5 =>
                            zLet p5.2.2 fun g6 =>
                            .inl (0, [n0, n15 + 1], g6)
                          else
                            zLet (rUp g4 102 0 3 n20) fun g5 =>
                            zLet (fn57 [n7, n0] g5) fun p5 =>
                            zLet p5.2.2 fun g6 =>
                            .inl (0, [n0, n15 + 1], g6)
          else
            zLet (g1 106 0 n15) fun n20 =>
            zLet (g0 66 0 n7) fun n21 =>
            if 0 ≥ n21 then
              zLet (g1 105 0 (4 * n15)) fun n22 =>
              zLet (rUp g1 102 0 0 n22) fun g2 =>
              zLet (g1 105 0 (4 * n15 + 1)) fun n23 =>
              zLet (rUp g2 102 0 1 n23) fun g3 =>
              zLet (g1 105 0 (4 * n15 + 2)) fun n24 =>
              zLet (rUp g3 102 0 2 n24) fun g4 =>
              zLet (g1 105 0 (4 * n15 + 3)) fun n25 =>
              zLet (rUp g4 102 0 3 n25) fun g5 =>
              zLet (fn57 [n7, n0] g5) fun p5 =>
              zLet p5.2.2 fun g6 =>
              .inl (0, [n0, n15 + 1], g6)
            else
              zLet (g0 70 0 (4 * n0)) fun n22 =>
              if n22 ≠ 3 then
                zLet (g1 105 0 (4 * n15)) fun n23 =>
                zLet (rUp g1 102 0 0 n23) fun g2 =>
                if 1 ≥ n21 then
                  zLet (g1 105 0 (4 * n15 + 1)) fun n24 =>
                  zLet (rUp g2 102 0 1 n24) fun g3 =>
                  zLet (g1 105 0 (4 * n15 + 2)) fun n25 =>
                  zLet (rUp g3 102 0 2 n25) fun g4 =>
                  zLet (g1 105 0 (4 * n15 + 3)) fun n26 =>
                  zLet (rUp g4 102 0 3 n26) fun g5 =>
                  zLet (fn57 [n7, n0] g5) fun p5 =>
                  zLet p5.2.2 fun g6 =>
                  .inl (0, [n0, n15 + 1], g6)
                else
                  zLet (g0 70 0 (4 * n0 + 1)) fun n24 =>
                  if n24 ≠ 3 then
                    zLet (g1 105 0 (4 * n15 + 1)) fun n25 =>
                    zLet (rUp g2 102 0 1 n25) fun g3 =>
                    if 2 ≥ n21 then
                      zLet (g1 105 0 (4 * n15 + 2)) fun n26 =>
                      zLet (rUp g3 102 0 2 n26) fun g4 =>
                      zLet (g1 105 0 (4 * n15 + 3)) fun n27 =>
                      zLet (rUp g4 102 0 3 n27) fun g5 =>
                      zLet (fn57 [n7, n0] g5) fun p5 =>
                      zLet p5.2.2 fun g6 =>
                      .inl (0, [n0, n15 + 1], g6)
                    else
                      zLet (g0 70 0 (4 * n0 + 2)) fun n26 =>
                      if n26 ≠ 3 then
                        zLet (g1 105 0 (4 * n15 + 2)) fun n27 =>
                        zLet (rUp g3 102 0 2 n27) fun g4 =>
                        if 3 ≥ n21 then
                          zLet (g1 105 0 (4 * n15 + 3)) fun n28 =>
                          zLet (rUp g4 102 0 3 n28) fun g5 =>
                          zLet (fn57 [n7, n0] g5) fun p5 =>
                          zLet p5.2.2 fun g6 =>
                          .inl (0, [n0, n15 + 1], g6)
                        else
                          zLet (g0 70 0 (4 * n0 + 3)) fun n28 =>
                          if n28 ≠ 3 then
                            zLet (g1 105 0 (4 * n15 + 3)) fun n29 =>
                            zLet (rUp g4 102 0 3 n29) fun g5 =>
                            zLet (fn57 [n7, n0] g5) fun p5 =>
                            zLet p5.2.2 fun g6 =>
                            .inl (0, [n0, n15 + 1], g6)
                          else
                            zLet (rUp g4 102 0 3 n20) fun g5 =>
                            zLet (fn57 [n7, n0] g5) fun p5 =>
                            zLet p5.2.2 fun g6 =>
                            .inl (0, [n0, n15 + 1], g6)
                      else
                        zLet (rUp g3 102 0 2 n20) fun g4 =>
                        if 3 ≥ n21 then
                          zLet (g1 105 0 (4 * n15 + 3)) fun n27 =>
                          zLet (rUp g4 102 0 3 n27) fun g5 =>
                          zLet (fn57 [n7, n0] g5) fun p5 =>
                          zLet p5.2.2 fun g6 =>
                          .inl (0, [n0, n15 + 1], g6)
                        else
                          zLet (g0 70 0 (4 * n0 + 3)) fun n27 =>
                          if n27 ≠ 3 then
                            zLet (g1 105 0 (4 * n15 + 3)) fun n28 =>
                            zLet (rUp g4 102 0 3 n28) fun g5 =>
                            zLet (fn57 [n7, n0] g5) fun p5 =>
                            zLet p5.2.2 fun g6 =>
                            .inl (0, [n0, n15 + 1], g6)
                          else
                            zLet (rUp g4 102 0 3 n20) fun g5 =>
                            zLet (fn57 [n7, n0] g5) fun p5 =>
                            zLet p5.2.2 fun g6 =>
                            .inl (0, [n0, n15 + 1], g6)
                  else
                    zLet (rUp g2 102 0 1 n20) fun g3 =>
                    if 2 ≥ n21 then
                      zLet (g1 105 0 (4 * n15 + 2)) fun n25 =>
                      zLet (rUp g3 102 0 2 n25) fun g4 =>
                      zLet (g1 105 0 (4 * n15 + 3)) fun n26 =>
                      zLet (rUp g4 102 0 3 n26) fun g5 =>
                      zLet (fn57 [n7, n0] g5) fun p5 =>
                      zLet p5.2.2 fun g6 =>
                      .inl (0, [n0, n15 + 1], g6)
                    else
                      zLet (g0 70 0 (4 * n0 + 2)) fun n25 =>
                      if n25 ≠ 3 then
                        zLet (g1 105 0 (4 * n15 + 2)) fun n26 =>
                        zLet (rUp g3 102 0 2 n26) fun g4 =>
                        if 3 ≥ n21 then
                          zLet (g1 105 0 (4 * n15 + 3)) fun n27 =>
                          zLet (rUp g4 102 0 3 n27) fun g5 =>
                          zLet (fn57 [n7, n0] g5) fun p5 =>
                          zLet p5.2.2 fun g6 =>
                          .inl (0, [n0, n15 + 1], g6)
                        else
                          zLet (g0 70 0 (4 * n0 + 3)) fun n27 =>
                          if n27 ≠ 3 then
                            zLet (g1 105 0 (4 * n15 + 3)) fun n28 =>
                            zLet (rUp g4 102 0 3 n28) fun g5 =>
                            zLet (fn57 [n7, n0] g5) fun p5 =>
                            zLet p5.2.2 fun g6 =>
                            .inl (0, [n0, n15 + 1], g6)
                          else
                            zLet (rUp g4 102 0 3 n20) fun g5 =>
                            zLet (fn57 [n7, n0] g5) fun p5 =>
                            zLet p5.2.2 fun g6 =>
                            .inl (0, [n0, n15 + 1], g6)
                      else
                        zLet (rUp g3 102 0 2 n20) fun g4 =>
                        if 3 ≥ n21 then
                          zLet (g1 105 0 (4 * n15 + 3)) fun n26 =>
                          zLet (rUp g4 102 0 3 n26) fun g5 =>
                          zLet (fn57 [n7, n0] g5) fun p5 =>
                          zLet p5.2.2 fun g6 =>
                          .inl (0, [n0, n15 + 1], g6)
                        else
                          zLet (g0 70 0 (4 * n0 + 3)) fun n26 =>
                          if n26 ≠ 3 then
                            zLet (g1 105 0 (4 * n15 + 3)) fun n27 =>
                            zLet (rUp g4 102 0 3 n27) fun g5 =>
                            zLet (fn57 [n7, n0] g5) fun p5 =>
                            zLet p5.2.2 fun g6 =>
                            .inl (0, [n0, n15 + 1], g6)
                          else
                            zLet (rUp g4 102 0 3 n20) fun g5 =>
                            zLet (fn57 [n7, n0] g5) fun p5 =>
                            zLet p5.2.2 fun g6 =>
                            .inl (0, [n0, n15 + 1], g6)
              else
                zLet (rUp g1 102 0 0 n20) fun g2 =>
                if 1 ≥ n21 then
                  zLet (g1 105 0 (4 * n15 + 1)) fun n23 =>
                  zLet (rUp g2 102 0 1 n23) fun g3 =>
                  zLet (g1 105 0 (4 * n15 + 2)) fun n24 =>
                  zLet (rUp g3 102 0 2 n24) fun g4 =>
                  zLet (g1 105 0 (4 * n15 + 3)) fun n25 =>
                  zLet (rUp g4 102 0 3 n25) fun g5 =>
                  zLet (fn57 [n7, n0] g5) fun p5 =>
                  zLet p5.2.2 fun g6 =>
                  .inl (0, [n0, n15 + 1], g6)
                else
                  zLet (g0 70 0 (4 * n0 + 1)) fun n23 =>
                  if n23 ≠ 3 then
                    zLet (g1 105 0 (4 * n15 + 1)) fun n24 =>
                    zLet (rUp g2 102 0 1 n24) fun g3 =>
                    if 2 ≥ n21 then
                      zLet (g1 105 0 (4 * n15 + 2)) fun n25 =>
                      zLet (rUp g3 102 0 2 n25) fun g4 =>
                      zLet (g1 105 0 (4 * n15 + 3)) fun n26 =>
                      zLet (rUp g4 102 0 3 n26) fun g5 =>
                      zLet (fn57 [n7, n0] g5) fun p5 =>
                      zLet p5.2.2 fun g6 =>
                      .inl (0, [n0, n15 + 1], g6)
                    else
                      zLet (g0 70 0 (4 * n0 + 2)) fun n25 =>
                      if n25 ≠ 3 then
                        zLet (g1 105 0 (4 * n15 + 2)) fun n26 =>
                        zLet (rUp g3 102 0 2 n26) fun g4 =>
                        if 3 ≥ n21 then
                          zLet (g1 105 0 (4 * n15 + 3)) fun n27 =>
                          zLet (rUp g4 102 0 3 n27) fun g5 =>
                          zLet (fn57 [n7, n0] g5) fun p5 =>
                          zLet p5.2.2 fun g6 =>
                          .inl (0, [n0, n15 + 1], g6)
                        else
                          zLet (g0 70 0 (4 * n0 + 3)) fun n27 =>
                          if n27 ≠ 3 then
                            zLet (g1 105 0 (4 * n15 + 3)) fun n28 =>
                            zLet (rUp g4 102 0 3 n28) fun g5 =>
                            zLet (fn57 [n7, n0] g5) fun p5 =>
                            zLet p5.2.2 fun g6 =>
                            .inl (0, [n0, n15 + 1], g6)
                          else
                            zLet (rUp g4 102 0 3 n20) fun g5 =>
                            zLet (fn57 [n7, n0] g5) fun p5 =>
                            zLet p5.2.2 fun g6 =>
                            .inl (0, [n0, n15 + 1], g6)
                      else
                        zLet (rUp g3 102 0 2 n20) fun g4 =>
                        if 3 ≥ n21 then
                          zLet (g1 105 0 (4 * n15 + 3)) fun n26 =>
                          zLet (rUp g4 102 0 3 n26) fun g5 =>
                          zLet (fn57 [n7, n0] g5) fun p5 =>
                          zLet p5.2.2 fun g6 =>
                          .inl (0, [n0, n15 + 1], g6)
                        else
                          zLet (g0 70 0 (4 * n0 + 3)) fun n26 =>
                          if n26 ≠ 3 then
                            zLet (g1 105 0 (4 * n15 + 3)) fun n27 =>
                            zLet (rUp g4 102 0 3 n27) fun g5 =>
                            zLet (fn57 [n7, n0] g5) fun p5 =>
                            zLet p5.2.2 fun g6 =>
                            .inl (0, [n0, n15 + 1], g6)
                          else
                            zLet (rUp g4 102 0 3 n20) fun g5 =>
                            zLet (fn57 [n7, n0] g5) fun p5 =>
                            zLet p5.2.2 fun g6 =>
                            .inl (0, [n0, n15 + 1], g6)
                  else
                    zLet (rUp g2 102 0 1 n20) fun g3 =>
                    if 2 ≥ n21 then
                      zLet (g1 105 0 (4 * n15 + 2)) fun n24 =>
                      zLet (rUp g3 102 0 2 n24) fun g4 =>
                      zLet (g1 105 0 (4 * n15 + 3)) fun n25 =>
                      zLet (rUp g4 102 0 3 n25) fun g5 =>
                      zLet (fn57 [n7, n0] g5) fun p5 =>
                      zLet p5.2.2 fun g6 =>
                      .inl (0, [n0, n15 + 1], g6)
                    else
                      zLet (g0 70 0 (4 * n0 + 2)) fun n24 =>
                      if n24 ≠ 3 then
                        zLet (g1 105 0 (4 * n15 + 2)) fun n25 =>
                        zLet (rUp g3 102 0 2 n25) fun g4 =>
                        if 3 ≥ n21 then
                          zLet (g1 105 0 (4 * n15 + 3)) fun n26 =>
                          zLet (rUp g4 102 0 3 n26) fun g5 =>
                          zLet (fn57 [n7, n0] g5) fun p5 =>
                          zLet p5.2.2 fun g6 =>
                          .inl (0, [n0, n15 + 1], g6)
                        else
                          zLet (g0 70 0 (4 * n0 + 3)) fun n26 =>
                          if n26 ≠ 3 then
                            zLet (g1 105 0 (4 * n15 + 3)) fun n27 =>
                            zLet (rUp g4 102 0 3 n27) fun g5 =>
                            zLet (fn57 [n7, n0] g5) fun p5 =>
                            zLet p5.2.2 fun g6 =>
                            .inl (0, [n0, n15 + 1], g6)
                          else
                            zLet (rUp g4 102 0 3 n20) fun g5 =>
                            zLet (fn57 [n7, n0] g5) fun p5 =>
                            zLet p5.2.2 fun g6 =>
                            .inl (0, [n0, n15 + 1], g6)
                      else
                        zLet (rUp g3 102 0 2 n20) fun g4 =>
                        if 3 ≥ n21 then
                          zLet (g1 105 0 (4 * n15 + 3)) fun n25 =>
                          zLet (rUp g4 102 0 3 n25) fun g5 =>
                          zLet (fn57 [n7, n0] g5) fun p5 =>
                          zLet p5.2.2 fun g6 =>
                          .inl (0, [n0, n15 + 1], g6)
                        else
                          zLet (g0 70 0 (4 * n0 + 3)) fun n25 =>
                          if n25 ≠ 3 then
                            zLet (g1 105 0 (4 * n15 + 3)) fun n26 =>
                            zLet (rUp g4 102 0 3 n26) fun g5 =>
                            zLet (fn57 [n7, n0] g5) fun p5 =>
                            zLet p5.2.2 fun g6 =>
                            .inl (0, [n0, n15 + 1], g6)
                          else
                            zLet (rUp g4 102 0 3 n20) fun g5 =>
                            zLet (fn57 [n7, n0] g5) fun p5 =>
                            zLet p5.2.2 fun g6 =>
                            .inl (0, [n0, n15 + 1], g6)
        else
          zLet (g1 109 0 n15) fun n20 =>
          if n20 ≠ 0 then
            zLet (g1 108 0 n15) fun n21 =>
            zLet (g0 66 0 n7) fun n22 =>
            if 0 ≥ n22 then
              zLet (g1 105 0 (4 * n15)) fun n23 =>
              zLet (rUp g1 102 0 0 n23) fun g2 =>
              zLet (g1 105 0 (4 * n15 + 1)) fun n24 =>
              zLet (rUp g2 102 0 1 n24) fun g3 =>
              zLet (g1 105 0 (4 * n15 + 2)) fun n25 =>
              zLet (rUp g3 102 0 2 n25) fun g4 =>
              zLet (g1 105 0 (4 * n15 + 3)) fun n26 =>
              zLet (rUp g4 102 0 3 n26) fun g5 =>
              zLet (fn57 [n7, n0] g5) fun p5 =>
              zLet p5.2.2 fun g6 =>
              .inl (0, [n0, n15 + 1], g6)
            else
              zLet (g0 70 0 (4 * n0)) fun n23 =>
              if n23 ≠ 3 then
                zLet (g1 105 0 (4 * n15)) fun n24 =>
                zLet (rUp g1 102 0 0 n24) fun g2 =>
                if 1 ≥ n22 then
                  zLet (g1 105 0 (4 * n15 + 1)) fun n25 =>
                  zLet (rUp g2 102 0 1 n25) fun g3 =>
                  zLet (g1 105 0 (4 * n15 + 2)) fun n26 =>
                  zLet (rUp g3 102 0 2 n26) fun g4 =>
                  zLet (g1 105 0 (4 * n15 + 3)) fun n27 =>
                  zLet (rUp g4 102 0 3 n27) fun g5 =>
                  zLet (fn57 [n7, n0] g5) fun p5 =>
                  zLet p5.2.2 fun g6 =>
                  .inl (0, [n0, n15 + 1], g6)
                else
                  zLet (g0 70 0 (4 * n0 + 1)) fun n25 =>
                  if n25 ≠ 3 then
                    zLet (g1 105 0 (4 * n15 + 1)) fun n26 =>
                    zLet (rUp g2 102 0 1 n26) fun g3 =>
                    if 2 ≥ n22 then
                      zLet (g1 105 0 (4 * n15 + 2)) fun n27 =>
                      zLet (rUp g3 102 0 2 n27) fun g4 =>
                      zLet (g1 105 0 (4 * n15 + 3)) fun n28 =>
                      zLet (rUp g4 102 0 3 n28) fun g5 =>
                      zLet (fn57 [n7, n0] g5) fun p5 =>
                      zLet p5.2.2 fun g6 =>
                      .inl (0, [n0, n15 + 1], g6)
                    else
                      zLet (g0 70 0 (4 * n0 + 2)) fun n27 =>
                      if n27 ≠ 3 then
                        zLet (g1 105 0 (4 * n15 + 2)) fun n28 =>
                        zLet (rUp g3 102 0 2 n28) fun g4 =>
                        if 3 ≥ n22 then
                          zLet (g1 105 0 (4 * n15 + 3)) fun n29 =>
                          zLet (rUp g4 102 0 3 n29) fun g5 =>
                          zLet (fn57 [n7, n0] g5) fun p5 =>
                          zLet p5.2.2 fun g6 =>
                          .inl (0, [n0, n15 + 1], g6)
                        else
                          zLet (g0 70 0 (4 * n0 + 3)) fun n29 =>
                          if n29 ≠ 3 then
                            zLet (g1 105 0 (4 * n15 + 3)) fun n30 =>
                            zLet (rUp g4 102 0 3 n30) fun g5 =>
                            zLet (fn57 [n7, n0] g5) fun p5 =>
                            zLet p5.2.2 fun g6 =>
                            .inl (0, [n0, n15 + 1], g6)
                          else
                            zLet (rUp g4 102 0 3 n21) fun g5 =>
                            zLet (fn57 [n7, n0] g5) fun p5 =>
                            zLet p5.2.2 fun g6 =>
                            .inl (0, [n0, n15 + 1], g6)
                      else
                        zLet (rUp g3 102 0 2 n21) fun g4 =>
                        if 3 ≥ n22 then
                          zLet (g1 105 0 (4 * n15 + 3)) fun n28 =>
                          zLet (rUp g4 102 0 3 n28) fun g5 =>
                          zLet (fn57 [n7, n0] g5) fun p5 =>
                          zLet p5.2.2 fun g6 =>
                          .inl (0, [n0, n15 + 1], g6)
                        else
                          zLet (g0 70 0 (4 * n0 + 3)) fun n28 =>
                          if n28 ≠ 3 then
                            zLet (g1 105 0 (4 * n15 + 3)) fun n29 =>
                            zLet (rUp g4 102 0 3 n29) fun g5 =>
                            zLet (fn57 [n7, n0] g5) fun p5 =>
                            zLet p5.2.2 fun g6 =>
                            .inl (0, [n0, n15 + 1], g6)
                          else
                            zLet (rUp g4 102 0 3 n21) fun g5 =>
                            zLet (fn57 [n7, n0] g5) fun p5 =>
                            zLet p5.2.2 fun g6 =>
                            .inl (0, [n0, n15 + 1], g6)
                  else
                    zLet (rUp g2 102 0 1 n21) fun g3 =>
                    if 2 ≥ n22 then
                      zLet (g1 105 0 (4 * n15 + 2)) fun n26 =>
                      zLet (rUp g3 102 0 2 n26) fun g4 =>
                      zLet (g1 105 0 (4 * n15 + 3)) fun n27 =>
                      zLet (rUp g4 102 0 3 n27) fun g5 =>
                      zLet (fn57 [n7, n0] g5) fun p5 =>
                      zLet p5.2.2 fun g6 =>
                      .inl (0, [n0, n15 + 1], g6)
                    else
                      zLet (g0 70 0 (4 * n0 + 2)) fun n26 =>
                      if n26 ≠ 3 then
                        zLet (g1 105 0 (4 * n15 + 2)) fun n27 =>
                        zLet (rUp g3 102 0 2 n27) fun g4 =>
                        if 3 ≥ n22 then
                          zLet (g1 105 0 (4 * n15 + 3)) fun n28 =>
                          zLet (rUp g4 102 0 3 n28) fun g5 =>
                          zLet (fn57 [n7, n0] g5) fun p5 =>
                          zLet p5.2.2 fun g6 =>
                          .inl (0, [n0, n15 + 1], g6)
                        else
                          zLet (g0 70 0 (4 * n0 + 3)) fun n28 =>
                          if n28 ≠ 3 then
                            zLet (g1 105 0 (4 * n15 + 3)) fun n29 =>
                            zLet (rUp g4 102 0 3 n29) fun g5 =>
                            zLet (fn57 [n7, n0] g5) fun p5 =>
                            zLet p5.2.2 fun g6 =>
                            .inl (0, [n0, n15 + 1], g6)
                          else
                            zLet (rUp g4 102 0 3 n21) fun g5 =>
                            zLet (fn57 [n7, n0] g5) fun p5 =>
                            zLet p5.2.2 fun g6 =>
                            .inl (0, [n0, n15 + 1], g6)
                      else
                        zLet (rUp g3 102 0 2 n21) fun g4 =>
                        if 3 ≥ n22 then
                          zLet (g1 105 0 (4 * n15 + 3)) fun n27 =>
                          zLet (rUp g4 102 0 3 n27) fun g5 =>
                          zLet (fn57 [n7, n0] g5) fun p5 =>
                          zLet p5.2.2 fun g6 =>
                          .inl (0, [n0, n15 + 1], g6)
                        else
                          zLet (g0 70 0 (4 * n0 + 3)) fun n27 =>
                          if n27 ≠ 3 then
                            zLet (g1 105 0 (4 * n15 + 3)) fun n28 =>
                            zLet (rUp g4 102 0 3 n28) fun g5 =>
                            zLet (fn57 [n7, n0] g5) fun p5 =>
                            zLet p5.2.2 fun g6 =>
                            .inl (0, [n0, n15 + 1], g6)
                          else
                            zLet (rUp g4 102 0 3 n21) fun g5 =>
                            zLet (fn57 [n7, n0] g5) fun p5 =>
                            zLet p5.2.2 fun g6 =>
                            .inl (0, [n0, n15 + 1], g6)
              else
                zLet (rUp g1 102 0 0 n21) fun g2 =>
                if 1 ≥ n22 then
                  zLet (g1 105 0 (4 * n15 + 1)) fun n24 =>
                  zLet (rUp g2 102 0 1 n24) fun g3 =>
                  zLet (g1 105 0 (4 * n15 + 2)) fun n25 =>
                  zLet (rUp g3 102 0 2 n25) fun g4 =>
                  zLet (g1 105 0 (4 * n15 + 3)) fun n26 =>
                  zLet (rUp g4 102 0 3 n26) fun g5 =>
                  zLet (fn57 [n7, n0] g5) fun p5 =>
                  zLet p5.2.2 fun g6 =>
                  .inl (0, [n0, n15 + 1], g6)
                else
                  zLet (g0 70 0 (4 * n0 + 1)) fun n24 =>
                  if n24 ≠ 3 then
                    zLet (g1 105 0 (4 * n15 + 1)) fun n25 =>
                    zLet (rUp g2 102 0 1 n25) fun g3 =>
                    if 2 ≥ n22 then
                      zLet (g1 105 0 (4 * n15 + 2)) fun n26 =>
                      zLet (rUp g3 102 0 2 n26) fun g4 =>
                      zLet (g1 105 0 (4 * n15 + 3)) fun n27 =>
                      zLet (rUp g4 102 0 3 n27) fun g5 =>
                      zLet (fn57 [n7, n0] g5) fun p5 =>
                      zLet p5.2.2 fun g6 =>
                      .inl (0, [n0, n15 + 1], g6)
                    else
                      zLet (g0 70 0 (4 * n0 + 2)) fun n26 =>
                      if n26 ≠ 3 then
                        zLet (g1 105 0 (4 * n15 + 2)) fun n27 =>
                        zLet (rUp g3 102 0 2 n27) fun g4 =>
                        if 3 ≥ n22 then
                          zLet (g1 105 0 (4 * n15 + 3)) fun n28 =>
                          zLet (rUp g4 102 0 3 n28) fun g5 =>
                          zLet (fn57 [n7, n0] g5) fun p5 =>
                          zLet p5.2.2 fun g6 =>
                          .inl (0, [n0, n15 + 1], g6)
                        else
                          zLet (g0 70 0 (4 * n0 + 3)) fun n28 =>
                          if n28 ≠ 3 then
                            zLet (g1 105 0 (4 * n15 + 3)) fun n29 =>
                            zLet (rUp g4 102 0 3 n29) fun g5 =>
                            zLet (fn57 [n7, n0] g5) fun p5 =>
                            zLet p5.2.2 fun g6 =>
                            .inl (0, [n0, n15 + 1], g6)
                          else
                            zLet (rUp g4 102 0 3 n21) fun g5 =>
                            zLet (fn57 [n7, n0] g5) fun p5 =>
                            zLet p5.2.2 fun g6 =>
                            .inl (0, [n0, n15 + 1], g6)
                      else
                        zLet (rUp g3 102 0 2 n21) fun g4 =>
                        if 3 ≥ n22 then
                          zLet (g1 105 0 (4 * n15 + 3)) fun n27 =>
                          zLet (rUp g4 102 0 3 n27) fun g5 =>
                          zLet (fn57 [n7, n0] g5) fun p5 =>
                          zLet p5.2.2 fun g6 =>
                          .inl (0, [n0, n15 + 1], g6)
                        else
                          zLet (g0 70 0 (4 * n0 + 3)) fun n27 =>
                          if n27 ≠ 3 then
                            zLet (g1 105 0 (4 * n15 + 3)) fun n28 =>
                            zLet (rUp g4 102 0 3 n28) fun g5 =>
                            zLet (fn57 [n7, n0] g5) fun p5 =>
                            zLet p5.2.2 fun g6 =>
                            .inl (0, [n0, n15 + 1], g6)
                          else
                            zLet (rUp g4 102 0 3 n21) fun g5 =>
                            zLet (fn57 [n7, n0] g5) fun p5 =>
                            zLet p5.2.2 fun g6 =>
                            .inl (0, [n0, n15 + 1], g6)
                  else
                    zLet (rUp g2 102 0 1 n21) fun g3 =>
                    if 2 ≥ n22 then
                      zLet (g1 105 0 (4 * n15 + 2)) fun n25 =>
                      zLet (rUp g3 102 0 2 n25) fun g4 =>
                      zLet (g1 105 0 (4 * n15 + 3)) fun n26 =>
                      zLet (rUp g4 102 0 3 n26) fun g5 =>
                      zLet (fn57 [n7, n0] g5) fun p5 =>
                      zLet p5.2.2 fun g6 =>
                      .inl (0, [n0, n15 + 1], g6)
                    else
                      zLet (g0 70 0 (4 * n0 + 2)) fun n25 =>
                      if n25 ≠ 3 then
                        zLet (g1 105 0 (4 * n15 + 2)) fun n26 =>
                        zLet (rUp g3 102 0 2 n26) fun g4 =>
                        if 3 ≥ n22 then
                          zLet (g1 105 0 (4 * n15 + 3)) fun n27 =>
                          zLet (rUp g4 102 0 3 n27) fun g5 =>
                          zLet (fn57 [n7, n0] g5) fun p5 =>
                          zLet p5.2.2 fun g6 =>
                          .inl (0, [n0, n15 + 1], g6)
                        else
                          zLet (g0 70 0 (4 * n0 + 3)) fun n27 =>
                          if n27 ≠ 3 then
                            zLet (g1 105 0 (4 * n15 + 3)) fun n28 =>
                            zLet (rUp g4 102 0 3 n28) fun g5 =>
                            zLet (fn57 [n7, n0] g5) fun p5 =>
                            zLet p5.2.2 fun g6 =>
                            .inl (0, [n0, n15 + 1], g6)
                          else
                            zLet (rUp g4 102 0 3 n21) fun g5 =>
                            zLet (fn57 [n7, n0] g5) fun p5 =>
                            zLet p5.2.2 fun g6 =>
                            .inl (0, [n0, n15 + 1], g6)
                      else
                        zLet (rUp g3 102 0 2 n21) fun g4 =>
                        if 3 ≥ n22 then
                          zLet (g1 105 0 (4 * n15 + 3)) fun n26 =>
                          zLet (rUp g4 102 0 3 n26) fun g5 =>
                          zLet (fn57 [n7, n0] g5) fun p5 =>
                          zLet p5.2.2 fun g6 =>
                          .inl (0, [n0, n15 + 1], g6)
                        else
                          zLet (g0 70 0 (4 * n0 + 3)) fun n26 =>
                          if n26 ≠ 3 then
                            zLet (g1 105 0 (4 * n15 + 3)) fun n27 =>
                            zLet (rUp g4 102 0 3 n27) fun g5 =>
                            zLet (fn57 [n7, n0] g5) fun p5 =>
                            zLet p5.2.2 fun g6 =>
                            .inl (0, [n0, n15 + 1], g6)
                          else
                            zLet (rUp g4 102 0 3 n21) fun g5 =>
                            zLet (fn57 [n7, n0] g5) fun p5 =>
                            zLet p5.2.2 fun g6 =>
                            .inl (0, [n0, n15 + 1], g6)
          else
            .inl (0, [n0, n15 + 1], g1)
  else .inr (0, 0, g0)
noncomputable def fn75 (x : List Int) (g : rHp) : zR := zGoo (en75 g) (dn75 x g)
noncomputable def sn75 : zSpc := fun a g o v g_q => (o, v, g_q) = fn75 [a.getD 0 0] g
noncomputable def pl75 : Nat → List Int → List Int
  | 0, vs => [vs.getD 0 0, vs.getD 15 0]
  | _, _ => []
noncomputable def jn75 : List Int → rHp → Nat → List Int → rHp → Prop := fun a g i vs g1 => fn75 [a.getD 0 0] g = zLoop (en75 g) (i, pl75 i vs, g1)
noncomputable def dn76 (x : List Int) (g0 : rHp) : zSt :=
  zLet (x.getD 0 0) fun n0 =>
  zLet (rUp g0 15 0 76 0) fun g1 =>
  .inl (0, [n0, 0], g1)
noncomputable def en76 (g0 : rHp) (s : Nat × List Int × rHp) : zSt :=
  if s.1 = 0 then
    zLet s.2.2 fun g1 =>
    zLet (s.2.1.getD 0 0) fun n0 =>
    zLet (s.2.1.getD 1 0) fun n15 =>
    zLet (g0 15 0 17) fun n3 =>
    zLet (g1 15 0 77) fun n17 =>
    if n15 ≥ n3 then
      .inl (1, [n0, 0], g1)
    else
      if n17 ≠ 0 then
        .inl (1, [n0, 0], g1)
      else
        zLet (g0 67 0 n15) fun n19 =>
        zLet (g0 92 0 n19) fun n20 =>
        if n20 = n0 then
          zLet (g0 68 0 (4 * n15)) fun n21 =>
          zLet (rUp g1 102 0 0 n21) fun g2 =>
          zLet (g0 68 0 (4 * n15 + 1)) fun n22 =>
          zLet (rUp g2 102 0 1 n22) fun g3 =>
          zLet (g0 68 0 (4 * n15 + 2)) fun n23 =>
          zLet (rUp g3 102 0 2 n23) fun g4 =>
          zLet (g0 68 0 (4 * n15 + 3)) fun n24 =>
          zLet (rUp g4 102 0 3 n24) fun g5 =>
          zLet (fn57 [n19, (-1)] g5) fun p5 =>
          zLet p5.2.2 fun g6 =>
          .inl (0, [n0, n15 + 1], g6)
        else
          .inl (0, [n0, n15 + 1], g1)
  else if s.1 = 1 then
    zLet s.2.2 fun g1 =>
    zLet (s.2.1.getD 0 0) fun n0 =>
    zLet (s.2.1.getD 1 0) fun n15 =>
    zLet (g0 15 0 32) fun n1 =>
    zLet (g1 15 0 77) fun n18 =>
    if n15 ≥ n1 then
      zLet (rUp g1 15 0 82 0) fun g2 =>
      zLet (rUp g2 15 0 83 0) fun g3 =>
      .inl (2, [n0], g3)
    else
      if n18 ≠ 0 then
        zLet (rUp g1 15 0 82 0) fun g2 =>
        zLet (rUp g2 15 0 83 0) fun g3 =>
        .inl (2, [n0], g3)
      else
        zLet (g0 71 0 n15) fun n22 =>
        if n22 ≤ 0 then
          .inl (1, [n0, n15 + 1], g1)
        else
          zLet (g0 69 0 n15) fun n23 =>
          zLet (g0 92 0 n23) fun n24 =>
          if n24 ≠ n0 then
            .inl (1, [n0, n15 + 1], g1)
          else
            zLet (fn75 [n15] g1) fun p1 =>
            zLet p1.2.2 fun g2 =>
            .inl (1, [n0, n15 + 1], g2)
  else if s.1 = 2 then
    zLet s.2.2 fun g1 =>
    zLet (s.2.1.getD 0 0) fun n0 =>
    zLet (g1 15 0 71) fun n15 =>
    zLet (g1 15 0 77) fun n17 =>
    zLet (g1 15 0 73) fun n18 =>
    zLet (g1 15 0 76) fun n19 =>
    if n17 ≠ 0 then
      .inr (0, 0, g1)
    else
      zLet (zF2 .iadd n19 1) fun n24 =>
      zLet (rUp g1 15 0 76 n24) fun g2 =>
      zLet (zF2 .iadd n18 1) fun n25 =>
      zLet (rUp g2 15 0 73 n25) fun g3 =>
      zLet (rUp g3 15 0 81 n15) fun g4 =>
      if n24 ≤ 1 then
        zLet (rUp g4 15 0 84 0) fun g5 =>
        .inl (3, [n0, 0, n15], g5)
      else
        zLet (rUp g4 15 0 84 1) fun g5 =>
        .inl (3, [n0, 0, n15], g5)
  else if s.1 = 3 then
    zLet s.2.2 fun g1 =>
    zLet (s.2.1.getD 0 0) fun n0 =>
    zLet (s.2.1.getD 1 0) fun n15 =>
    zLet (s.2.1.getD 2 0) fun n16 =>
    zLet (g0 15 0 32) fun n1 =>
    zLet (g1 15 0 71) fun n17 =>
    zLet (g1 15 0 77) fun n19 =>
    zLet (g1 15 0 76) fun n21 =>
    if n15 ≥ n1 then
      if n17 ≤ n16 then
        zLet (rUp g1 15 0 82 n16) fun g2 =>
        zLet (rUp g2 15 0 83 n17) fun g3 =>
        .inr (0, 0, g3)
      else
        zLet (rUp g1 15 0 82 n16) fun g2 =>
        zLet (rUp g2 15 0 83 n17) fun g3 =>
        .inl (2, [n0], g3)
    else
      if n19 ≠ 0 then
        if n17 ≤ n16 then
          zLet (rUp g1 15 0 82 n16) fun g2 =>
          zLet (rUp g2 15 0 83 n17) fun g3 =>
          .inr (0, 0, g3)
        else
          zLet (rUp g1 15 0 82 n16) fun g2 =>
          zLet (rUp g2 15 0 83 n17) fun g3 =>
          .inl (2, [n0], g3)
      else
        zLet (g0 71 0 n15) fun n26 =>
        if n26 ≠ 0 then
          .inl (3, [n0, n15 + 1, n16], g1)
        else
          zLet (g0 69 0 n15) fun n27 =>
          zLet (g0 92 0 n27) fun n28 =>
          if n28 ≠ n0 then
            .inl (3, [n0, n15 + 1, n16], g1)
          else
            if n21 = 1 then
              zLet (fn72 [n15] g1) fun p1 =>
              zLet p1.2.2 fun g2 =>
              .inl (3, [n0, n15 + 1, n16], g2)
            else
              zLet (fn71 [n15] g1) fun p1 =>
              zLet p1.2.2 fun g2 =>
              zLet (p1.2.1) fun n30 =>
              if n30 ≤ 0 then
                .inl (3, [n0, n15 + 1, n16], g2)
              else
                zLet (fn72 [n15] g2) fun p2 =>
                zLet p2.2.2 fun g3 =>
                .inl (3, [n0, n15 + 1, n16], g3)
  else .inr (0, 0, g0)
noncomputable def fn76 (x : List Int) (g : rHp) : zR := zGoo (en76 g) (dn76 x g)
noncomputable def sn76 : zSpc := fun a g o v g_q => (o, v, g_q) = fn76 [a.getD 0 0] g
noncomputable def pl76 : Nat → List Int → List Int
  | 0, vs => [vs.getD 0 0, vs.getD 15 0]
  | 1, vs => [vs.getD 0 0, vs.getD 15 0]
  | 2, vs => [vs.getD 0 0]
  | 3, vs => [vs.getD 0 0, vs.getD 15 0, vs.getD 16 0]
  | _, _ => []
noncomputable def jn76 : List Int → rHp → Nat → List Int → rHp → Prop := fun a g i vs g1 => fn76 [a.getD 0 0] g = zLoop (en76 g) (i, pl76 i vs, g1)
noncomputable def dn77 (x : List Int) (g0 : rHp) : zSt :=
  .inl (0, [0], g0)
noncomputable def en77 (g0 : rHp) (s : Nat × List Int × rHp) : zSt :=
  if s.1 = 0 then
    zLet s.2.2 fun g1 =>
    zLet (s.2.1.getD 0 0) fun n24 =>
    zLet (g0 15 0 13) fun n1 =>
    if n24 ≥ n1 then
      .inl (1, [1], g1)
    else
      zLet (rUp g1 92 0 n24 0) fun g2 =>
      .inl (0, [n24 + 1], g2)
  else if s.1 = 1 then
    zLet s.2.2 fun g1 =>
    zLet (s.2.1.getD 0 0) fun n24 =>
    if n24 = 0 then
      zLet (rUp g1 15 0 61 0) fun g2 =>
      .inl (4, [0, n24], g2)
    else
      .inl (2, [0, 0], g1)
  else if s.1 = 2 then
    zLet s.2.2 fun g1 =>
    zLet (s.2.1.getD 0 0) fun n24 =>
    zLet (s.2.1.getD 1 0) fun n25 =>
    zLet (g0 15 0 32) fun n0 =>
    if n24 ≥ n0 then
      .inl (1, [n25], g1)
    else
      zLet (g0 69 0 n24) fun n47 =>
      zLet (g1 92 0 n47) fun n48 =>
      .inl (3, [8 * n24, n48, n24, n25], g1)
  else if s.1 = 3 then
    zLet s.2.2 fun g1 =>
    zLet (s.2.1.getD 0 0) fun n24 =>
    zLet (s.2.1.getD 1 0) fun n25 =>
    zLet (s.2.1.getD 2 0) fun n26 =>
    zLet (s.2.1.getD 3 0) fun n27 =>
    zLet (g1 92 0 0) fun n28 =>
    zLet (g1 92 0 1) fun n29 =>
    zLet (g1 92 0 2) fun n30 =>
    zLet (g1 92 0 3) fun n31 =>
    zLet (g1 92 0 4) fun n32 =>
    zLet (g1 92 0 5) fun n33 =>
    zLet (g1 92 0 6) fun n34 =>
    zLet (g1 92 0 7) fun n35 =>
    zLet (g1 92 0 8) fun n36 =>
    zLet (g1 92 0 9) fun n37 =>
    zLet (g1 92 0 10) fun n38 =>
    zLet (g1 92 0 11) fun n39 =>
    zLet (g1 92 0 12) fun n40 =>
    zLet (g1 92 0 13) fun n41 =>
    zLet (g1 92 0 14) fun n42 =>
    zLet (g1 92 0 15) fun n43 =>
    zLet (g1 92 0 16) fun n44 =>
    zLet (g1 92 0 17) fun n45 =>
    zLet (g1 92 0 18) fun n46 =>
    zLet (g1 92 0 19) fun n47 =>
    zLet (g0 73 0 n26) fun n49 =>
    if n24 ≥ n49 + 8 * n26 then
      if n25 ≤ 20 then
        zLet (g0 69 0 n26) fun n50 =>
        if 0 ≤ -n50 then
          if n25 ≤ n28 then
            .inl (2, [n26 + 1, n27], g1)
          else
            zLet (rUp g1 92 0 n50 n25) fun g2 =>
            .inl (2, [n26 + 1, 1], g2)
        else
          if 0 ≤ -n50 + 1 then
            if n25 ≤ n29 then
              .inl (2, [n26 + 1, n27], g1)
            else
              zLet (rUp g1 92 0 n50 n25) fun g2 =>
              .inl (2, [n26 + 1, 1], g2)
          else
            if 0 ≤ -n50 + 2 then
              if n25 ≤ n30 then
                .inl (2, [n26 + 1, n27], g1)
              else
                zLet (rUp g1 92 0 n50 n25) fun g2 =>
                .inl (2, [n26 + 1, 1], g2)
            else
              if 0 ≤ -n50 + 3 then
                if n25 ≤ n31 then
                  .inl (2, [n26 + 1, n27], g1)
                else
                  zLet (rUp g1 92 0 n50 n25) fun g2 =>
                  .inl (2, [n26 + 1, 1], g2)
              else
                if 0 ≤ -n50 + 4 then
                  if n25 ≤ n32 then
                    .inl (2, [n26 + 1, n27], g1)
                  else
                    zLet (rUp g1 92 0 n50 n25) fun g2 =>
                    .inl (2, [n26 + 1, 1], g2)
                else
                  if 0 ≤ -n50 + 5 then
                    if n25 ≤ n33 then
                      .inl (2, [n26 + 1, n27], g1)
                    else
                      zLet (rUp g1 92 0 n50 n25) fun g2 =>
                      .inl (2, [n26 + 1, 1], g2)
                  else
                    if 0 ≤ -n50 + 6 then
                      if n25 ≤ n34 then
                        .inl (2, [n26 + 1, n27], g1)
                      else
                        zLet (rUp g1 92 0 n50 n25) fun g2 =>
                        .inl (2, [n26 + 1, 1], g2)
                    else
                      if 0 ≤ -n50 + 7 then
                        if n25 ≤ n35 then
                          .inl (2, [n26 + 1, n27], g1)
                        else
                          zLet (rUp g1 92 0 n50 n25) fun g2 =>
                          .inl (2, [n26 + 1, 1], g2)
                      else
                        if 0 ≤ -n50 + 8 then
                          if n25 ≤ n36 then
                            .inl (2, [n26 + 1, n27], g1)
                          else
                            zLet (rUp g1 92 0 n50 n25) fun g2 =>
                            .inl (2, [n26 + 1, 1], g2)
                        else
                          if 0 ≤ -n50 + 9 then
                            if n25 ≤ n37 then
                              .inl (2, [n26 + 1, n27], g1)
                            else
                              zLet (rUp g1 92 0 n50 n25) fun g2 =>
                              .inl (2, [n26 + 1, 1], g2)
                          else
                            if 0 ≤ -n50 + 10 then
                              if n25 ≤ n38 then
                                .inl (2, [n26 + 1, n27], g1)
                              else
                                zLet (rUp g1 92 0 n50 n25) fun g2 =>
                                .inl (2, [n26 + 1, 1], g2)
                            else
                              if 0 ≤ -n50 + 11 then
                                if n25 ≤ n39 then
                                  .inl (2, [n26 + 1, n27], g1)
                                else
                                  zLet (rUp g1 92 0 n50 n25) fun g2 =>
                                  .inl (2, [n26 + 1, 1], g2)
                              else
                                if 0 ≤ -n50 + 12 then
                                  if n25 ≤ n40 then
                                    .inl (2, [n26 + 1, n27], g1)
                                  else
                                    zLet (rUp g1 92 0 n50 n25) fun g2 =>
                                    .inl (2, [n26 + 1, 1], g2)
                                else
                                  if 0 ≤ -n50 + 13 then
                                    if n25 ≤ n41 then
                                      .inl (2, [n26 + 1, n27], g1)
                                    else
                                      zLet (rUp g1 92 0 n50 n25) fun g2 =>
                                      .inl (2, [n26 + 1, 1], g2)
                                  else
                                    if 0 ≤ -n50 + 14 then
                                      if n25 ≤ n42 then
                                        .inl (2, [n26 + 1, n27], g1)
                                      else
                                        zLet (rUp g1 92 0 n50 n25) fun g2 =>
                                        .inl (2, [n26 + 1, 1], g2)
                                    else
                                      if 0 ≤ -n50 + 15 then
                                        if n25 ≤ n43 then
                                          .inl (2, [n26 + 1, n27], g1)
                                        else
                                          zLet (rUp g1 92 0 n50 n25) fun g2 =>
                                          .inl (2, [n26 + 1, 1], g2)
                                      else
                                        if 0 ≤ -n50 + 16 then
                                          if n25 ≤ n44 then
                                            .inl (2, [n26 + 1, n27], g1)
                                          else
                                            zLet (rUp g1 92 0 n50 n25) fun g2 =>
                                            .inl (2, [n26 + 1, 1], g2)
                                        else
                                          if 0 ≤ -n50 + 17 then
                                            if n25 ≤ n45 then
                                              .inl (2, [n26 + 1, n27], g1)
                                            else
                                              zLet (rUp g1 92 0 n50 n25) fun g2 =>
                                              .inl (2, [n26 + 1, 1], g2)
                                          else
                                            if 0 ≤ -n50 + 18 then
                                              if n25 ≤ n46 then
                                                .inl (2, [n26 + 1, n27], g1)
                                              else
                                                zLet (rUp g1 92 0 n50 n25) fun g2 =>
                                                .inl (2, [n26 + 1, 1], g2)
                                            else
                                              if n25 ≤ n47 then
                                                .inl (2, [n26 + 1, n27], g1)
                                              else
                                                zLet (rUp g1 92 0 n50 n25) fun g2 =>
                                                .inl (2, [n26 + 1, 1], g2)
      else
        .inr (0, 0, g1)
    else
      zLet (g0 77 0 n24) fun n50 =>
      if n50 ≤ 1 then
        zLet (g0 78 0 n24) fun n51 =>
        zLet (g1 92 0 n51) fun n52 =>
        if n50 = 1 then
          if n52 + 1 ≤ n25 then
            .inl (3, [n24 + 1, n25, n26, n27], g1)
          else
            .inl (3, [n24 + 1, n52 + 1, n26, n27], g1)
        else
          zLet (g0 71 0 n26) fun n53 =>
          if n53 ≤ 0 then
            if n52 ≤ n25 then
              .inl (3, [n24 + 1, n25, n26, n27], g1)
            else
              .inl (3, [n24 + 1, n52, n26, n27], g1)
          else
            if n52 + 1 ≤ n25 then
              .inl (3, [n24 + 1, n25, n26, n27], g1)
            else
              .inl (3, [n24 + 1, n52 + 1, n26, n27], g1)
      else
        .inl (3, [n24 + 1, n25, n26, n27], g1)
  else if s.1 = 4 then
    zLet s.2.2 fun g1 =>
    zLet (s.2.1.getD 0 0) fun n24 =>
    zLet (s.2.1.getD 1 0) fun n25 =>
    zLet (g0 15 0 13) fun n1 =>
    zLet (g1 15 0 61) fun n26 =>
    if n24 ≥ n1 then
      .inr (0, 1, g1)
    else
      zLet (g1 92 0 n24) fun n48 =>
      if n48 < n26 then
        .inl (4, [n24 + 1, n25], g1)
      else
        zLet (rUp g1 15 0 61 (n48 + 1)) fun g2 =>
        .inl (4, [n24 + 1, n25], g2)
  else .inr (0, 0, g0)
noncomputable def fn77 (x : List Int) (g : rHp) : zR := zGoo (en77 g) (dn77 x g)
noncomputable def sn77 : zSpc := fun a g o v g_q => (o, v, g_q) = fn77 [] g
noncomputable def pl77 : Nat → List Int → List Int
  | 0, vs => [vs.getD 24 0]
  | 1, vs => [vs.getD 24 0]
  | 2, vs => [vs.getD 24 0, vs.getD 25 0]
  | 3, vs => [vs.getD 24 0, vs.getD 25 0, vs.getD 26 0, vs.getD 27 0]
  | 4, vs => [vs.getD 24 0, vs.getD 25 0]
  | _, _ => []
noncomputable def jn77 : List Int → rHp → Nat → List Int → rHp → Prop := fun a g i vs g1 => fn77 [] g = zLoop (en77 g) (i, pl77 i vs, g1)
noncomputable def dn78 (x : List Int) (g0 : rHp) : zSt :=
  zLet (g0 15 0 13) fun n1 =>
  zLet (rUp g0 15 0 93 0) fun g1 =>
  zLet (fn77 [] g1) fun p1 =>
  zLet p1.2.2 fun g2 =>
  if 1 ≤ p1.2.1 then
    zLet (rUp g2 15 0 71 0) fun g3 =>
    zLet (rUp g3 15 0 72 0) fun g4 =>
    zLet (rUp g4 15 0 73 0) fun g5 =>
    zLet (rUp g5 15 0 77 0) fun g6 =>
    if 0 ≥ n1 then
      .inl (0, [0], g6)
    else
      zLet (rUp g6 100 0 0 ((-1))) fun g7 =>
      if 1 ≥ n1 then
        .inl (0, [0], g7)
      else
        zLet (rUp g7 100 0 1 ((-1))) fun g8 =>
        if 2 ≥ n1 then
          .inl (0, [0], g8)
        else
          zLet (rUp g8 100 0 2 ((-1))) fun g9 =>
          if 3 ≥ n1 then
            .inl (0, [0], g9)
          else
            zLet (rUp g9 100 0 3 ((-1))) fun g10 =>
            if 4 ≥ n1 then
              .inl (0, [0], g10)
            else
              zLet (rUp g10 100 0 4 ((-1))) fun g11 =>
              if 5 ≥ n1 then
                .inl (0, [0], g11)
              else
                zLet (rUp g11 100 0 5 ((-1))) fun g12 =>
                if 6 ≥ n1 then
                  .inl (0, [0], g12)
                else
                  zLet (rUp g12 100 0 6 ((-1))) fun g13 =>
                  if 7 ≥ n1 then
                    .inl (0, [0], g13)
                  else
                    zLet (rUp g13 100 0 7 ((-1))) fun g14 =>
                    if 8 ≥ n1 then
                      .inl (0, [0], g14)
                    else
                      zLet (rUp g14 100 0 8 ((-1))) fun g15 =>
                      if 9 ≥ n1 then
                        .inl (0, [0], g15)
                      else
                        zLet (rUp g15 100 0 9 ((-1))) fun g16 =>
                        if 10 ≥ n1 then
                          .inl (0, [0], g16)
                        else
                          zLet (rUp g16 100 0 10 ((-1))) fun g17 =>
                          if 11 ≥ n1 then
                            .inl (0, [0], g17)
                          else
                            zLet (rUp g17 100 0 11 ((-1))) fun g18 =>
                            if 12 ≥ n1 then
                              .inl (0, [0], g18)
                            else
                              zLet (rUp g18 100 0 12 ((-1))) fun g19 =>
                              if 13 ≥ n1 then
                                .inl (0, [0], g19)
                              else
                                zLet (rUp g19 100 0 13 ((-1))) fun g20 =>
                                if 14 ≥ n1 then
                                  .inl (0, [0], g20)
                                else
                                  zLet (rUp g20 100 0 14 ((-1))) fun g21 =>
                                  if 15 ≥ n1 then
                                    .inl (0, [0], g21)
                                  else
                                    zLet (rUp g21 100 0 15 ((-1))) fun g22 =>
                                    if 16 ≥ n1 then
                                      .inl (0, [0], g22)
                                    else
                                      zLet (rUp g22 100 0 16 ((-1))) fun g23 =>
                                      if 17 ≥ n1 then
                                        .inl (0, [0], g23)
                                      else
                                        zLet (rUp g23 100 0 17 ((-1))) fun g24 =>
                                        if 18 ≥ n1 then
                                          .inl (0, [0], g24)
                                        else
                                          zLet (rUp g24 100 0 18 ((-1))) fun g25 =>
                                          if 19 ≥ n1 then
                                            .inl (0, [0], g25)
                                          else
                                            zLet (rUp g25 100 0 19 ((-1))) fun g26 =>
                                            .inl (0, [0], g26)
  else
    zLet (rUp g2 15 0 59 0) fun g3 =>
    zLet (rUp g3 15 0 0 1) fun g4 =>
    .inr (0, 0, g4)
noncomputable def en78 (g0 : rHp) (s : Nat × List Int × rHp) : zSt :=
  if s.1 = 0 then
    zLet s.2.2 fun g1 =>
    zLet (s.2.1.getD 0 0) fun n19 =>
    zLet (g1 15 0 71) fun n20 =>
    zLet (g1 15 0 72) fun n21 =>
    zLet (g1 15 0 77) fun n22 =>
    zLet (g1 15 0 61) fun n23 =>
    zLet (g1 15 0 73) fun n24 =>
    if n19 ≥ n23 then
      if n22 ≠ 0 then
        zLet (rUp g1 15 0 59 0) fun g2 =>
        zLet (fn1 [n22] g2) fun p2 =>
        zLet p2.2.2 fun g3 =>
        .inr (0, 0, g3)
      else
        zLet (rUp g1 15 0 59 1) fun g2 =>
        zLet (fn1 [n22] g2) fun p2 =>
        zLet p2.2.2 fun g3 =>
        zLet (rUp g3 15 0 74 n21) fun g4 =>
        zLet (rUp g4 15 0 75 n24) fun g5 =>
        .inr (0, n20, g5)
    else
      if n22 ≠ 0 then
        zLet (rUp g1 15 0 59 0) fun g2 =>
        zLet (fn1 [n22] g2) fun p2 =>
        zLet p2.2.2 fun g3 =>
        .inr (0, 0, g3)
      else
        zLet (fn76 [n19] g1) fun p1 =>
        zLet p1.2.2 fun g2 =>
        .inl (0, [n19 + 1], g2)
  else .inr (0, 0, g0)
noncomputable def fn78 (x : List Int) (g : rHp) : zR := zGoo (en78 g) (dn78 x g)
noncomputable def sn78 : zSpc := fun a g o v g_q => (o, v, g_q) = fn78 [] g
noncomputable def pl78 : Nat → List Int → List Int
  | 0, vs => [vs.getD 19 0]
  | _, _ => []
noncomputable def jn78 : List Int → rHp → Nat → List Int → rHp → Prop := fun a g i vs g1 => fn78 [] g = zLoop (en78 g) (i, pl78 i vs, g1)
noncomputable def fn79 (x : List Int) (g0 : rHp) : zR :=
  zLet (x.getD 0 0) fun n0 =>
  zLet (g0 15 0 71) fun n1 =>
  if n0 < 0 then
    (0, 0, g0)
  else
    if n0 ≥ n1 then
      (0, 0, g0)
    else
      (0, 1, g0)
noncomputable def sn79 : zSpc := fun a g o v g_q => (o, v, g_q) = fn79 [a.getD 0 0] g
noncomputable def fn80 (x : List Int) (g0 : rHp) : zR :=
  zLet (x.getD 0 0) fun n0 =>
  zLet (fn55 [n0] g0) fun p0 =>
  zLet p0.2.2 fun g1 =>
  if 1 ≤ p0.2.1 then
    zLet (zF1 .l2i n0) fun n1 =>
    (0, n1, g1)
  else
    zLet (zF2 .ladd 200000000 n0) fun n1 =>
    zLet (zF2 .lsub n1 1099511627776) fun n2 =>
    zLet (zF1 .l2i n2) fun n3 =>
    (0, n3, g1)
noncomputable def sn80 : zSpc := fun a g o v g_q => (o, v, g_q) = fn80 [a.getD 0 0] g
noncomputable def fn81 (x : List Int) (g0 : rHp) : zR :=
  zLet (x.getD 0 0) fun n0 =>
  zLet (x.getD 1 0) fun n1 =>
  if n1 < 0 then
    zLet (fn1 [1] g0) fun p0 =>
    zLet p0.2.2 fun g1 =>
    (0, 0, g1)
  else
    if n1 ≤ 8 then
      zLet (g0 15 0 59) fun n4 =>
      if n4 ≠ 0 then
        zLet (fn79 [n0] g0) fun p0 =>
        zLet p0.2.2 fun g1 =>
        if 1 ≤ p0.2.1 then
          zLet (fn1 [0] g1) fun p1 =>
          zLet p1.2.2 fun g2 =>
          zLet (g0 93 0 n0) fun n5 =>
          if 0 ≤ -n1 + 3 then
            zLet (g0 66 0 n5) fun n6 =>
            if n1 ≥ n6 then
              (0, 300000000, g2)
            else
              zLet (g0 99 0 (n1 + 4 * n0)) fun n7 =>
              zLet (fn80 [n7] g2) fun p2 =>
              zLet p2.2.2 fun g3 =>
              zLet (p2.2.1) fun n8 =>
              (0, n8, g3)
          else
            if n1 = 4 then
              (0, n5, g2)
            else
              if n1 = 5 then
                zLet (g0 92 0 n5) fun n6 =>
                (0, n6, g2)
              else
                if n1 = 6 then
                  zLet (g0 94 0 n0) fun n6 =>
                  (0, n6, g2)
                else
                  if n1 = 7 then
                    zLet (g0 95 0 n0) fun n6 =>
                    (0, n6, g2)
                  else
                    zLet (g0 97 0 n0) fun n6 =>
                    (0, n6, g2)
        else
          zLet (fn1 [3] g1) fun p1 =>
          zLet p1.2.2 fun g2 =>
          (0, 0, g2)
      else
        zLet (fn1 [2] g0) fun p0 =>
        zLet p0.2.2 fun g1 =>
        (0, 0, g1)
    else
      zLet (fn1 [1] g0) fun p0 =>
      zLet p0.2.2 fun g1 =>
      (0, 0, g1)
noncomputable def sn81 : zSpc := fun a g o v g_q => (o, v, g_q) = fn81 [a.getD 0 0, a.getD 1 0] g
noncomputable def fn82 (x : List Int) (g0 : rHp) : zR :=
  zLet (x.getD 0 0) fun n0 =>
  zLet (x.getD 1 0) fun n1 =>
  zLet (g0 15 0 59) fun n4 =>
  if n4 ≠ 0 then
    zLet (fn79 [n0] g0) fun p0 =>
    zLet p0.2.2 fun g1 =>
    if 1 ≤ p0.2.1 then
      if n1 < 0 then
        zLet (fn1 [2] g1) fun p1 =>
        zLet p1.2.2 fun g2 =>
        (0, 0, g2)
      else
        zLet (g0 97 0 n0) fun n5 =>
        if n1 < n5 then
          zLet (fn1 [0] g1) fun p1 =>
          zLet p1.2.2 fun g2 =>
          zLet (g0 98 0 (n1 + 8 * n0)) fun n6 =>
          (0, n6, g2)
        else
          zLet (fn1 [2] g1) fun p1 =>
          zLet p1.2.2 fun g2 =>
          (0, 0, g2)
    else
      zLet (fn1 [2] g1) fun p1 =>
      zLet p1.2.2 fun g2 =>
      (0, 0, g2)
  else
    zLet (fn1 [1] g0) fun p0 =>
    zLet p0.2.2 fun g1 =>
    (0, 0, g1)
noncomputable def sn82 : zSpc := fun a g o v g_q => (o, v, g_q) = fn82 [a.getD 0 0, a.getD 1 0] g
noncomputable def fn83 (x : List Int) (g0 : rHp) : zR :=
  zLet (x.getD 0 0) fun n0 =>
  zLet (g0 15 0 13) fun n2 =>
  zLet (g0 15 0 59) fun n3 =>
  if n3 ≠ 0 then
    if n0 < 0 then
      zLet (fn1 [2] g0) fun p0 =>
      zLet p0.2.2 fun g1 =>
      (0, 0, g1)
    else
      if n0 < n2 then
        zLet (fn1 [0] g0) fun p0 =>
        zLet p0.2.2 fun g1 =>
        zLet (g0 92 0 n0) fun n4 =>
        (0, n4, g1)
      else
        zLet (fn1 [2] g0) fun p0 =>
        zLet p0.2.2 fun g1 =>
        (0, 0, g1)
  else
    zLet (fn1 [1] g0) fun p0 =>
    zLet p0.2.2 fun g1 =>
    (0, 0, g1)
noncomputable def sn83 : zSpc := fun a g o v g_q => (o, v, g_q) = fn83 [a.getD 0 0] g
noncomputable def fn84 (x : List Int) (g0 : rHp) : zR :=
  zLet (x.getD 0 0) fun n0 =>
  zLet (g0 15 0 3) fun n2 =>
  zLet (g0 15 0 4) fun n3 =>
  zLet (g0 15 0 8) fun n4 =>
  zLet (g0 15 0 13) fun n5 =>
  zLet (g0 15 0 17) fun n6 =>
  zLet (g0 15 0 32) fun n7 =>
  zLet (g0 15 0 61) fun n8 =>
  zLet (g0 15 0 71) fun n9 =>
  zLet (g0 15 0 74) fun n10 =>
  zLet (g0 15 0 75) fun n11 =>
  if n0 < 0 then
    zLet (fn1 [1] g0) fun p0 =>
    zLet p0.2.2 fun g1 =>
    (0, 0, g1)
  else
    if n0 ≤ 9 then
      zLet (fn1 [0] g0) fun p0 =>
      zLet p0.2.2 fun g1 =>
      if n0 = 9 then
        (0, n4, g1)
      else
        if n0 = 0 then
          (0, n2, g1)
        else
          if n0 = 1 then
            (0, n3, g1)
          else
            if n0 = 2 then
              (0, n7, g1)
            else
              if n0 = 3 then
                (0, n6, g1)
              else
                if n0 = 4 then
                  (0, n5, g1)
                else
                  if n0 = 5 then
                    zLet (g0 15 0 59) fun n12 =>
                    if n12 = 0 then
                      (0, 0, g1)
                    else
                      (0, n9, g1)
                  else
                    if n0 = 6 then
                      (0, n10, g1)
                    else
                      if n0 = 7 then
                        (0, n11, g1)
                      else
                        zLet (g0 15 0 59) fun n12 =>
                        if n12 = 0 then
                          (0, 0, g1)
                        else
                          (0, n8, g1)
    else
      zLet (fn1 [1] g0) fun p0 =>
      zLet p0.2.2 fun g1 =>
      (0, 0, g1)
noncomputable def sn84 : zSpc := fun a g o v g_q => (o, v, g_q) = fn84 [a.getD 0 0] g
noncomputable def fn85 (x : List Int) (g0 : rHp) : zR :=
  zLet (x.getD 0 0) fun n0 =>
  zLet (x.getD 1 0) fun n1 =>
  zLet (g0 15 0 93) fun n3 =>
  zLet (g0 15 0 95) fun n4 =>
  if n0 < 0 then
    zLet (fn1 [1] g0) fun p0 =>
    zLet p0.2.2 fun g1 =>
    (0, 0, g1)
  else
    if n0 ≥ n3 then
      zLet (fn1 [1] g0) fun p0 =>
      zLet p0.2.2 fun g1 =>
      (0, 0, g1)
    else
      if n0 ≥ 100 then
        zLet (fn1 [1] g0) fun p0 =>
        zLet p0.2.2 fun g1 =>
        (0, 0, g1)
      else
        if n1 < 0 then
          zLet (fn1 [1] g0) fun p0 =>
          zLet p0.2.2 fun g1 =>
          (0, 0, g1)
        else
          if n1 > 7 then
            zLet (fn1 [1] g0) fun p0 =>
            zLet p0.2.2 fun g1 =>
            (0, 0, g1)
          else
            zLet (zF2 .ishr n4 n1) fun n5 =>
            zLet (zF2 .iand n5 1) fun n6 =>
            if n6 ≠ 0 then
              zLet (fn1 [0] g0) fun p0 =>
              zLet p0.2.2 fun g1 =>
              zLet (g0 110 0 (n1 + 8 * n0)) fun n7 =>
              zLet (fn80 [n7] g1) fun p1 =>
              zLet p1.2.2 fun g2 =>
              zLet (p1.2.1) fun n8 =>
              (0, n8, g2)
            else
              zLet (fn1 [1] g0) fun p0 =>
              zLet p0.2.2 fun g1 =>
              (0, 0, g1)
noncomputable def sn85 : zSpc := fun a g o v g_q => (o, v, g_q) = fn85 [a.getD 0 0, a.getD 1 0] g
noncomputable def dn86 (x : List Int) (g0 : rHp) : zSt :=
  zLet (x.getD 0 0) fun n0 =>
  zLet (g0 15 0 4) fun n2 =>
  if n0 < 0 then
    zLet (fn1 [1] g0) fun p0 =>
    zLet p0.2.2 fun g1 =>
    .inr (0, 0, g1)
  else
    if n0 < n2 then
      zLet (fn1 [0] g0) fun p0 =>
      zLet p0.2.2 fun g1 =>
      .inl (0, [n0, n0, 0], g1)
    else
      zLet (fn1 [1] g0) fun p0 =>
      zLet p0.2.2 fun g1 =>
      .inr (0, 0, g1)
noncomputable def en86 (g0 : rHp) (s : Nat × List Int × rHp) : zSt :=
  if s.1 = 0 then
    zLet s.2.2 fun g1 =>
    zLet (s.2.1.getD 0 0) fun n0 =>
    zLet (s.2.1.getD 1 0) fun n3 =>
    zLet (s.2.1.getD 2 0) fun n4 =>
    zLet (g0 15 0 4) fun n2 =>
    if n3 ≥ n0 + 8 then
      .inr (0, n4, g1)
    else
      zLet (zF2 .lshl n4 8) fun n6 =>
      if n3 ≥ n2 then
        zLet (zF2 .lor n6 0) fun n7 =>
        .inl (0, [n0, n3 + 1, n7], g1)
      else
        zLet (g0 60 0 n3) fun n7 =>
        zLet (zF2 .land n7 255) fun n8 =>
        zLet (zF2 .lor n6 n8) fun n9 =>
        .inl (0, [n0, n3 + 1, n9], g1)
  else .inr (0, 0, g0)
noncomputable def fn86 (x : List Int) (g : rHp) : zR := zGoo (en86 g) (dn86 x g)
noncomputable def sn86 : zSpc := fun a g o v g_q => (o, v, g_q) = fn86 [a.getD 0 0] g
noncomputable def pl86 : Nat → List Int → List Int
  | 0, vs => [vs.getD 0 0, vs.getD 3 0, vs.getD 4 0]
  | _, _ => []
noncomputable def jn86 : List Int → rHp → Nat → List Int → rHp → Prop := fun a g i vs g1 => fn86 [a.getD 0 0] g = zLoop (en86 g) (i, pl86 i vs, g1)
noncomputable def fn87 (x : List Int) (g0 : rHp) : zR :=
  zLet (x.getD 0 0) fun n0 =>
  zLet (g0 15 0 4) fun n1 =>
  zLet (zF1 .i2b n0) fun n2 =>
  zLet (rUp g0 60 0 n1 n2) fun g1 =>
  zLet (rUp g1 15 0 4 (n1 + 1)) fun g2 =>
  (0, 0, g2)
noncomputable def sn87 : zSpc := fun a g o v g_q => (o, v, g_q) = fn87 [a.getD 0 0] g
noncomputable def fn88 (x : List Int) (g0 : rHp) : zR :=
  zLet (x.getD 0 0) fun n0 =>
  if n0 ≥ 0 then
    zLet (n0 / 1) fun n2 =>
    if n2 ≤ 9 then
      zLet (n0 / 1) fun n3 =>
      zLet (zF2 .lrem n3 10) fun n4 =>
      zLet (zF2 .ladd 48 n4) fun n5 =>
      zLet (zF1 .l2i n5) fun n6 =>
      zLet (fn87 [n6] g0) fun p0 =>
      zLet p0.2.2 fun g1 =>
      (0, 0, g1)
    else
      zLet (n0 / 10) fun n3 =>
      if n3 ≤ 9 then
        zLet (n0 / 10) fun n4 =>
        zLet (zF2 .lrem n4 10) fun n5 =>
        zLet (zF2 .ladd 48 n5) fun n6 =>
        zLet (zF1 .l2i n6) fun n7 =>
        zLet (fn87 [n7] g0) fun p0 =>
        zLet p0.2.2 fun g1 =>
        zLet (n0 / 1) fun n8 =>
        zLet (zF2 .lrem n8 10) fun n9 =>
        zLet (zF2 .ladd 48 n9) fun n10 =>
        zLet (zF1 .l2i n10) fun n11 =>
        zLet (fn87 [n11] g1) fun p1 =>
        zLet p1.2.2 fun g2 =>
        (0, 0, g2)
      else
        zLet (n0 / 100) fun n4 =>
        if n4 ≤ 9 then
          zLet (n0 / 100) fun n5 =>
          zLet (zF2 .lrem n5 10) fun n6 =>
          zLet (zF2 .ladd 48 n6) fun n7 =>
          zLet (zF1 .l2i n7) fun n8 =>
          zLet (fn87 [n8] g0) fun p0 =>
          zLet p0.2.2 fun g1 =>
          zLet (n0 / 10) fun n9 =>
          zLet (zF2 .lrem n9 10) fun n10 =>
          zLet (zF2 .ladd 48 n10) fun n11 =>
          zLet (zF1 .l2i n11) fun n12 =>
          zLet (fn87 [n12] g1) fun p1 =>
          zLet p1.2.2 fun g2 =>
          zLet (n0 / 1) fun n13 =>
          zLet (zF2 .lrem n13 10) fun n14 =>
          zLet (zF2 .ladd 48 n14) fun n15 =>
          zLet (zF1 .l2i n15) fun n16 =>
          zLet (fn87 [n16] g2) fun p2 =>
          zLet p2.2.2 fun g3 =>
          (0, 0, g3)
        else
          zLet (n0 / 1000) fun n5 =>
          if n5 ≤ 9 then
            zLet (n0 / 1000) fun n6 =>
            zLet (zF2 .lrem n6 10) fun n7 =>
            zLet (zF2 .ladd 48 n7) fun n8 =>
            zLet (zF1 .l2i n8) fun n9 =>
            zLet (fn87 [n9] g0) fun p0 =>
            zLet p0.2.2 fun g1 =>
            zLet (n0 / 100) fun n10 =>
            zLet (zF2 .lrem n10 10) fun n11 =>
            zLet (zF2 .ladd 48 n11) fun n12 =>
            zLet (zF1 .l2i n12) fun n13 =>
            zLet (fn87 [n13] g1) fun p1 =>
            zLet p1.2.2 fun g2 =>
            zLet (n0 / 10) fun n14 =>
            zLet (zF2 .lrem n14 10) fun n15 =>
            zLet (zF2 .ladd 48 n15) fun n16 =>
            zLet (zF1 .l2i n16) fun n17 =>
            zLet (fn87 [n17] g2) fun p2 =>
            zLet p2.2.2 fun g3 =>
            zLet (n0 / 1) fun n18 =>
            zLet (zF2 .lrem n18 10) fun n19 =>
            zLet (zF2 .ladd 48 n19) fun n20 =>
            zLet (zF1 .l2i n20) fun n21 =>
            zLet (fn87 [n21] g3) fun p3 =>
            zLet p3.2.2 fun g4 =>
            (0, 0, g4)
          else
            zLet (n0 / 10000) fun n6 =>
            if n6 ≤ 9 then
              zLet (n0 / 10000) fun n7 =>
              zLet (zF2 .lrem n7 10) fun n8 =>
              zLet (zF2 .ladd 48 n8) fun n9 =>
              zLet (zF1 .l2i n9) fun n10 =>
              zLet (fn87 [n10] g0) fun p0 =>
              zLet p0.2.2 fun g1 =>
              zLet (n0 / 1000) fun n11 =>
              zLet (zF2 .lrem n11 10) fun n12 =>
              zLet (zF2 .ladd 48 n12) fun n13 =>
              zLet (zF1 .l2i n13) fun n14 =>
              zLet (fn87 [n14] g1) fun p1 =>
              zLet p1.2.2 fun g2 =>
              zLet (n0 / 100) fun n15 =>
              zLet (zF2 .lrem n15 10) fun n16 =>
              zLet (zF2 .ladd 48 n16) fun n17 =>
              zLet (zF1 .l2i n17) fun n18 =>
              zLet (fn87 [n18] g2) fun p2 =>
              zLet p2.2.2 fun g3 =>
              zLet (n0 / 10) fun n19 =>
              zLet (zF2 .lrem n19 10) fun n20 =>
              zLet (zF2 .ladd 48 n20) fun n21 =>
              zLet (zF1 .l2i n21) fun n22 =>
              zLet (fn87 [n22] g3) fun p3 =>
              zLet p3.2.2 fun g4 =>
              zLet (n0 / 1) fun n23 =>
              zLet (zF2 .lrem n23 10) fun n24 =>
              zLet (zF2 .ladd 48 n24) fun n25 =>
              zLet (zF1 .l2i n25) fun n26 =>
              zLet (fn87 [n26] g4) fun p4 =>
              zLet p4.2.2 fun g5 =>
              (0, 0, g5)
            else
              zLet (n0 / 100000) fun n7 =>
              if n7 ≤ 9 then
                zLet (n0 / 100000) fun n8 =>
                zLet (zF2 .lrem n8 10) fun n9 =>
                zLet (zF2 .ladd 48 n9) fun n10 =>
                zLet (zF1 .l2i n10) fun n11 =>
                zLet (fn87 [n11] g0) fun p0 =>
                zLet p0.2.2 fun g1 =>
                zLet (n0 / 10000) fun n12 =>
                zLet (zF2 .lrem n12 10) fun n13 =>
                zLet (zF2 .ladd 48 n13) fun n14 =>
                zLet (zF1 .l2i n14) fun n15 =>
                zLet (fn87 [n15] g1) fun p1 =>
                zLet p1.2.2 fun g2 =>
                zLet (n0 / 1000) fun n16 =>
                zLet (zF2 .lrem n16 10) fun n17 =>
                zLet (zF2 .ladd 48 n17) fun n18 =>
                zLet (zF1 .l2i n18) fun n19 =>
                zLet (fn87 [n19] g2) fun p2 =>
                zLet p2.2.2 fun g3 =>
                zLet (n0 / 100) fun n20 =>
                zLet (zF2 .lrem n20 10) fun n21 =>
                zLet (zF2 .ladd 48 n21) fun n22 =>
                zLet (zF1 .l2i n22) fun n23 =>
                zLet (fn87 [n23] g3) fun p3 =>
                zLet p3.2.2 fun g4 =>
                zLet (n0 / 10) fun n24 =>
                zLet (zF2 .lrem n24 10) fun n25 =>
                zLet (zF2 .ladd 48 n25) fun n26 =>
                zLet (zF1 .l2i n26) fun n27 =>
                zLet (fn87 [n27] g4) fun p4 =>
                zLet p4.2.2 fun g5 =>
                zLet (n0 / 1) fun n28 =>
                zLet (zF2 .lrem n28 10) fun n29 =>
                zLet (zF2 .ladd 48 n29) fun n30 =>
                zLet (zF1 .l2i n30) fun n31 =>
                zLet (fn87 [n31] g5) fun p5 =>
                zLet p5.2.2 fun g6 =>
                (0, 0, g6)
              else
                zLet (n0 / 1000000) fun n8 =>
                if n8 ≤ 9 then
                  zLet (n0 / 1000000) fun n9 =>
                  zLet (zF2 .lrem n9 10) fun n10 =>
                  zLet (zF2 .ladd 48 n10) fun n11 =>
                  zLet (zF1 .l2i n11) fun n12 =>
                  zLet (fn87 [n12] g0) fun p0 =>
                  zLet p0.2.2 fun g1 =>
                  zLet (n0 / 100000) fun n13 =>
                  zLet (zF2 .lrem n13 10) fun n14 =>
                  zLet (zF2 .ladd 48 n14) fun n15 =>
                  zLet (zF1 .l2i n15) fun n16 =>
                  zLet (fn87 [n16] g1) fun p1 =>
                  zLet p1.2.2 fun g2 =>
                  zLet (n0 / 10000) fun n17 =>
                  zLet (zF2 .lrem n17 10) fun n18 =>
                  zLet (zF2 .ladd 48 n18) fun n19 =>
                  zLet (zF1 .l2i n19) fun n20 =>
                  zLet (fn87 [n20] g2) fun p2 =>
                  zLet p2.2.2 fun g3 =>
                  zLet (n0 / 1000) fun n21 =>
                  zLet (zF2 .lrem n21 10) fun n22 =>
                  zLet (zF2 .ladd 48 n22) fun n23 =>
                  zLet (zF1 .l2i n23) fun n24 =>
                  zLet (fn87 [n24] g3) fun p3 =>
                  zLet p3.2.2 fun g4 =>
                  zLet (n0 / 100) fun n25 =>
                  zLet (zF2 .lrem n25 10) fun n26 =>
                  zLet (zF2 .ladd 48 n26) fun n27 =>
                  zLet (zF1 .l2i n27) fun n28 =>
                  zLet (fn87 [n28] g4) fun p4 =>
                  zLet p4.2.2 fun g5 =>
                  zLet (n0 / 10) fun n29 =>
                  zLet (zF2 .lrem n29 10) fun n30 =>
                  zLet (zF2 .ladd 48 n30) fun n31 =>
                  zLet (zF1 .l2i n31) fun n32 =>
                  zLet (fn87 [n32] g5) fun p5 =>
                  zLet p5.2.2 fun g6 =>
                  zLet (n0 / 1) fun n33 =>
                  zLet (zF2 .lrem n33 10) fun n34 =>
                  zLet (zF2 .ladd 48 n34) fun n35 =>
                  zLet (zF1 .l2i n35) fun n36 =>
                  zLet (fn87 [n36] g6) fun p6 =>
                  zLet p6.2.2 fun g7 =>
                  (0, 0, g7)
                else
                  zLet (n0 / 10000000) fun n9 =>
                  if n9 ≤ 9 then
                    zLet (n0 / 10000000) fun n10 =>
                    zLet (zF2 .lrem n10 10) fun n11 =>
                    zLet (zF2 .ladd 48 n11) fun n12 =>
                    zLet (zF1 .l2i n12) fun n13 =>
                    zLet (fn87 [n13] g0) fun p0 =>
                    zLet p0.2.2 fun g1 =>
                    zLet (n0 / 1000000) fun n14 =>
                    zLet (zF2 .lrem n14 10) fun n15 =>
                    zLet (zF2 .ladd 48 n15) fun n16 =>
                    zLet (zF1 .l2i n16) fun n17 =>
                    zLet (fn87 [n17] g1) fun p1 =>
                    zLet p1.2.2 fun g2 =>
                    zLet (n0 / 100000) fun n18 =>
                    zLet (zF2 .lrem n18 10) fun n19 =>
                    zLet (zF2 .ladd 48 n19) fun n20 =>
                    zLet (zF1 .l2i n20) fun n21 =>
                    zLet (fn87 [n21] g2) fun p2 =>
                    zLet p2.2.2 fun g3 =>
                    zLet (n0 / 10000) fun n22 =>
                    zLet (zF2 .lrem n22 10) fun n23 =>
                    zLet (zF2 .ladd 48 n23) fun n24 =>
                    zLet (zF1 .l2i n24) fun n25 =>
                    zLet (fn87 [n25] g3) fun p3 =>
                    zLet p3.2.2 fun g4 =>
                    zLet (n0 / 1000) fun n26 =>
                    zLet (zF2 .lrem n26 10) fun n27 =>
                    zLet (zF2 .ladd 48 n27) fun n28 =>
                    zLet (zF1 .l2i n28) fun n29 =>
                    zLet (fn87 [n29] g4) fun p4 =>
                    zLet p4.2.2 fun g5 =>
                    zLet (n0 / 100) fun n30 =>
                    zLet (zF2 .lrem n30 10) fun n31 =>
                    zLet (zF2 .ladd 48 n31) fun n32 =>
                    zLet (zF1 .l2i n32) fun n33 =>
                    zLet (fn87 [n33] g5) fun p5 =>
                    zLet p5.2.2 fun g6 =>
                    zLet (n0 / 10) fun n34 =>
                    zLet (zF2 .lrem n34 10) fun n35 =>
                    zLet (zF2 .ladd 48 n35) fun n36 =>
                    zLet (zF1 .l2i n36) fun n37 =>
                    zLet (fn87 [n37] g6) fun p6 =>
                    zLet p6.2.2 fun g7 =>
                    zLet (n0 / 1) fun n38 =>
                    zLet (zF2 .lrem n38 10) fun n39 =>
                    zLet (zF2 .ladd 48 n39) fun n40 =>
                    zLet (zF1 .l2i n40) fun n41 =>
                    zLet (fn87 [n41] g7) fun p7 =>
                    zLet p7.2.2 fun g8 =>
                    (0, 0, g8)
                  else
                    zLet (n0 / 100000000) fun n10 =>
                    if n10 ≤ 9 then
                      zLet (n0 / 100000000) fun n11 =>
                      zLet (zF2 .lrem n11 10) fun n12 =>
                      zLet (zF2 .ladd 48 n12) fun n13 =>
                      zLet (zF1 .l2i n13) fun n14 =>
                      zLet (fn87 [n14] g0) fun p0 =>
                      zLet p0.2.2 fun g1 =>
                      zLet (n0 / 10000000) fun n15 =>
                      zLet (zF2 .lrem n15 10) fun n16 =>
                      zLet (zF2 .ladd 48 n16) fun n17 =>
                      zLet (zF1 .l2i n17) fun n18 =>
                      zLet (fn87 [n18] g1) fun p1 =>
                      zLet p1.2.2 fun g2 =>
                      zLet (n0 / 1000000) fun n19 =>
                      zLet (zF2 .lrem n19 10) fun n20 =>
                      zLet (zF2 .ladd 48 n20) fun n21 =>
                      zLet (zF1 .l2i n21) fun n22 =>
                      zLet (fn87 [n22] g2) fun p2 =>
                      zLet p2.2.2 fun g3 =>
                      zLet (n0 / 100000) fun n23 =>
                      zLet (zF2 .lrem n23 10) fun n24 =>
                      zLet (zF2 .ladd 48 n24) fun n25 =>
                      zLet (zF1 .l2i n25) fun n26 =>
                      zLet (fn87 [n26] g3) fun p3 =>
                      zLet p3.2.2 fun g4 =>
                      zLet (n0 / 10000) fun n27 =>
                      zLet (zF2 .lrem n27 10) fun n28 =>
                      zLet (zF2 .ladd 48 n28) fun n29 =>
                      zLet (zF1 .l2i n29) fun n30 =>
                      zLet (fn87 [n30] g4) fun p4 =>
                      zLet p4.2.2 fun g5 =>
                      zLet (n0 / 1000) fun n31 =>
                      zLet (zF2 .lrem n31 10) fun n32 =>
                      zLet (zF2 .ladd 48 n32) fun n33 =>
                      zLet (zF1 .l2i n33) fun n34 =>
                      zLet (fn87 [n34] g5) fun p5 =>
                      zLet p5.2.2 fun g6 =>
                      zLet (n0 / 100) fun n35 =>
                      zLet (zF2 .lrem n35 10) fun n36 =>
                      zLet (zF2 .ladd 48 n36) fun n37 =>
                      zLet (zF1 .l2i n37) fun n38 =>
                      zLet (fn87 [n38] g6) fun p6 =>
                      zLet p6.2.2 fun g7 =>
                      zLet (n0 / 10) fun n39 =>
                      zLet (zF2 .lrem n39 10) fun n40 =>
                      zLet (zF2 .ladd 48 n40) fun n41 =>
                      zLet (zF1 .l2i n41) fun n42 =>
                      zLet (fn87 [n42] g7) fun p7 =>
                      zLet p7.2.2 fun g8 =>
                      zLet (n0 / 1) fun n43 =>
                      zLet (zF2 .lrem n43 10) fun n44 =>
                      zLet (zF2 .ladd 48 n44) fun n45 =>
                      zLet (zF1 .l2i n45) fun n46 =>
                      zLet (fn87 [n46] g8) fun p8 =>
                      zLet p8.2.2 fun g9 =>
                      (0, 0, g9)
                    else
                      zLet (n0 / 1000000000) fun n11 =>
                      if n11 ≤ 9 then
                        zLet (n0 / 1000000000) fun n12 =>
                        zLet (zF2 .lrem n12 10) fun n13 =>
                        zLet (zF2 .ladd 48 n13) fun n14 =>
                        zLet (zF1 .l2i n14) fun n15 =>
                        zLet (fn87 [n15] g0) fun p0 =>
                        zLet p0.2.2 fun g1 =>
                        zLet (n0 / 100000000) fun n16 =>
                        zLet (zF2 .lrem n16 10) fun n17 =>
                        zLet (zF2 .ladd 48 n17) fun n18 =>
                        zLet (zF1 .l2i n18) fun n19 =>
                        zLet (fn87 [n19] g1) fun p1 =>
                        zLet p1.2.2 fun g2 =>
                        zLet (n0 / 10000000) fun n20 =>
                        zLet (zF2 .lrem n20 10) fun n21 =>
                        zLet (zF2 .ladd 48 n21) fun n22 =>
                        zLet (zF1 .l2i n22) fun n23 =>
                        zLet (fn87 [n23] g2) fun p2 =>
                        zLet p2.2.2 fun g3 =>
                        zLet (n0 / 1000000) fun n24 =>
                        zLet (zF2 .lrem n24 10) fun n25 =>
                        zLet (zF2 .ladd 48 n25) fun n26 =>
                        zLet (zF1 .l2i n26) fun n27 =>
                        zLet (fn87 [n27] g3) fun p3 =>
                        zLet p3.2.2 fun g4 =>
                        zLet (n0 / 100000) fun n28 =>
                        zLet (zF2 .lrem n28 10) fun n29 =>
                        zLet (zF2 .ladd 48 n29) fun n30 =>
                        zLet (zF1 .l2i n30) fun n31 =>
                        zLet (fn87 [n31] g4) fun p4 =>
                        zLet p4.2.2 fun g5 =>
                        zLet (n0 / 10000) fun n32 =>
                        zLet (zF2 .lrem n32 10) fun n33 =>
                        zLet (zF2 .ladd 48 n33) fun n34 =>
                        zLet (zF1 .l2i n34) fun n35 =>
                        zLet (fn87 [n35] g5) fun p5 =>
                        zLet p5.2.2 fun g6 =>
                        zLet (n0 / 1000) fun n36 =>
                        zLet (zF2 .lrem n36 10) fun n37 =>
                        zLet (zF2 .ladd 48 n37) fun n38 =>
                        zLet (zF1 .l2i n38) fun n39 =>
                        zLet (fn87 [n39] g6) fun p6 =>
                        zLet p6.2.2 fun g7 =>
                        zLet (n0 / 100) fun n40 =>
                        zLet (zF2 .lrem n40 10) fun n41 =>
                        zLet (zF2 .ladd 48 n41) fun n42 =>
                        zLet (zF1 .l2i n42) fun n43 =>
                        zLet (fn87 [n43] g7) fun p7 =>
                        zLet p7.2.2 fun g8 =>
                        zLet (n0 / 10) fun n44 =>
                        zLet (zF2 .lrem n44 10) fun n45 =>
                        zLet (zF2 .ladd 48 n45) fun n46 =>
                        zLet (zF1 .l2i n46) fun n47 =>
                        zLet (fn87 [n47] g8) fun p8 =>
                        zLet p8.2.2 fun g9 =>
                        zLet (n0 / 1) fun n48 =>
                        zLet (zF2 .lrem n48 10) fun n49 =>
                        zLet (zF2 .ladd 48 n49) fun n50 =>
                        zLet (zF1 .l2i n50) fun n51 =>
                        zLet (fn87 [n51] g9) fun p9 =>
                        zLet p9.2.2 fun g10 =>
                        (0, 0, g10)
                      else
                        zLet (n0 / 10000000000) fun n12 =>
                        if n12 ≤ 9 then
                          zLet (n0 / 10000000000) fun n13 =>
                          zLet (zF2 .lrem n13 10) fun n14 =>
                          zLet (zF2 .ladd 48 n14) fun n15 =>
                          zLet (zF1 .l2i n15) fun n16 =>
                          zLet (fn87 [n16] g0) fun p0 =>
                          zLet p0.2.2 fun g1 =>
                          zLet (n0 / 1000000000) fun n17 =>
                          zLet (zF2 .lrem n17 10) fun n18 =>
                          zLet (zF2 .ladd 48 n18) fun n19 =>
                          zLet (zF1 .l2i n19) fun n20 =>
                          zLet (fn87 [n20] g1) fun p1 =>
                          zLet p1.2.2 fun g2 =>
                          zLet (n0 / 100000000) fun n21 =>
                          zLet (zF2 .lrem n21 10) fun n22 =>
                          zLet (zF2 .ladd 48 n22) fun n23 =>
                          zLet (zF1 .l2i n23) fun n24 =>
                          zLet (fn87 [n24] g2) fun p2 =>
                          zLet p2.2.2 fun g3 =>
                          zLet (n0 / 10000000) fun n25 =>
                          zLet (zF2 .lrem n25 10) fun n26 =>
                          zLet (zF2 .ladd 48 n26) fun n27 =>
                          zLet (zF1 .l2i n27) fun n28 =>
                          zLet (fn87 [n28] g3) fun p3 =>
                          zLet p3.2.2 fun g4 =>
                          zLet (n0 / 1000000) fun n29 =>
                          zLet (zF2 .lrem n29 10) fun n30 =>
                          zLet (zF2 .ladd 48 n30) fun n31 =>
                          zLet (zF1 .l2i n31) fun n32 =>
                          zLet (fn87 [n32] g4) fun p4 =>
                          zLet p4.2.2 fun g5 =>
                          zLet (n0 / 100000) fun n33 =>
                          zLet (zF2 .lrem n33 10) fun n34 =>
                          zLet (zF2 .ladd 48 n34) fun n35 =>
                          zLet (zF1 .l2i n35) fun n36 =>
                          zLet (fn87 [n36] g5) fun p5 =>
                          zLet p5.2.2 fun g6 =>
                          zLet (n0 / 10000) fun n37 =>
                          zLet (zF2 .lrem n37 10) fun n38 =>
                          zLet (zF2 .ladd 48 n38) fun n39 =>
                          zLet (zF1 .l2i n39) fun n40 =>
                          zLet (fn87 [n40] g6) fun p6 =>
                          zLet p6.2.2 fun g7 =>
                          zLet (n0 / 1000) fun n41 =>
                          zLet (zF2 .lrem n41 10) fun n42 =>
                          zLet (zF2 .ladd 48 n42) fun n43 =>
                          zLet (zF1 .l2i n43) fun n44 =>
                          zLet (fn87 [n44] g7) fun p7 =>
                          zLet p7.2.2 fun g8 =>
                          zLet (n0 / 100) fun n45 =>
                          zLet (zF2 .lrem n45 10) fun n46 =>
                          zLet (zF2 .ladd 48 n46) fun n47 =>
                          zLet (zF1 .l2i n47) fun n48 =>
                          zLet (fn87 [n48] g8) fun p8 =>
                          zLet p8.2.2 fun g9 =>
                          zLet (n0 / 10) fun n49 =>
                          zLet (zF2 .lrem n49 10) fun n50 =>
                          zLet (zF2 .ladd 48 n50) fun n51 =>
                          zLet (zF1 .l2i n51) fun n52 =>
                          zLet (fn87 [n52] g9) fun p9 =>
                          zLet p9.2.2 fun g10 =>
                          zLet (n0 / 1) fun n53 =>
                          zLet (zF2 .lrem n53 10) fun n54 =>
                          zLet (zF2 .ladd 48 n54) fun n55 =>
                          zLet (zF1 .l2i n55) fun n56 =>
                          zLet (fn87 [n56] g10) fun p10 =>
                          zLet p10.2.2 fun g11 =>
                          (0, 0, g11)
                        else
                          zLet (n0 / 100000000000) fun n14 =>
                          zLet (zF2 .lrem n14 10) fun n15 =>
                          zLet (zF2 .ladd 48 n15) fun n16 =>
                          zLet (zF1 .l2i n16) fun n17 =>
                          zLet (fn87 [n17] g0) fun p0 =>
                          zLet p0.2.2 fun g1 =>
                          zLet (n0 / 10000000000) fun n18 =>
                          zLet (zF2 .lrem n18 10) fun n19 =>
                          zLet (zF2 .ladd 48 n19) fun n20 =>
                          zLet (zF1 .l2i n20) fun n21 =>
                          zLet (fn87 [n21] g1) fun p1 =>
                          zLet p1.2.2 fun g2 =>
                          zLet (n0 / 1000000000) fun n22 =>
                          zLet (zF2 .lrem n22 10) fun n23 =>
                          zLet (zF2 .ladd 48 n23) fun n24 =>
                          zLet (zF1 .l2i n24) fun n25 =>
                          zLet (fn87 [n25] g2) fun p2 =>
                          zLet p2.2.2 fun g3 =>
                          zLet (n0 / 100000000) fun n26 =>
                          zLet (zF2 .lrem n26 10) fun n27 =>
                          zLet (zF2 .ladd 48 n27) fun n28 =>
                          zLet (zF1 .l2i n28) fun n29 =>
                          zLet (fn87 [n29] g3) fun p3 =>
                          zLet p3.2.2 fun g4 =>
                          zLet (n0 / 10000000) fun n30 =>
                          zLet (zF2 .lrem n30 10) fun n31 =>
                          zLet (zF2 .ladd 48 n31) fun n32 =>
                          zLet (zF1 .l2i n32) fun n33 =>
                          zLet (fn87 [n33] g4) fun p4 =>
                          zLet p4.2.2 fun g5 =>
                          zLet (n0 / 1000000) fun n34 =>
                          zLet (zF2 .lrem n34 10) fun n35 =>
                          zLet (zF2 .ladd 48 n35) fun n36 =>
                          zLet (zF1 .l2i n36) fun n37 =>
                          zLet (fn87 [n37] g5) fun p5 =>
                          zLet p5.2.2 fun g6 =>
                          zLet (n0 / 100000) fun n38 =>
                          zLet (zF2 .lrem n38 10) fun n39 =>
                          zLet (zF2 .ladd 48 n39) fun n40 =>
                          zLet (zF1 .l2i n40) fun n41 =>
                          zLet (fn87 [n41] g6) fun p6 =>
                          zLet p6.2.2 fun g7 =>
                          zLet (n0 / 10000) fun n42 =>
                          zLet (zF2 .lrem n42 10) fun n43 =>
                          zLet (zF2 .ladd 48 n43) fun n44 =>
                          zLet (zF1 .l2i n44) fun n45 =>
                          zLet (fn87 [n45] g7) fun p7 =>
                          zLet p7.2.2 fun g8 =>
                          zLet (n0 / 1000) fun n46 =>
                          zLet (zF2 .lrem n46 10) fun n47 =>
                          zLet (zF2 .ladd 48 n47) fun n48 =>
                          zLet (zF1 .l2i n48) fun n49 =>
                          zLet (fn87 [n49] g8) fun p8 =>
                          zLet p8.2.2 fun g9 =>
                          zLet (n0 / 100) fun n50 =>
                          zLet (zF2 .lrem n50 10) fun n51 =>
                          zLet (zF2 .ladd 48 n51) fun n52 =>
                          zLet (zF1 .l2i n52) fun n53 =>
                          zLet (fn87 [n53] g9) fun p9 =>
                          zLet p9.2.2 fun g10 =>
                          zLet (n0 / 10) fun n54 =>
                          zLet (zF2 .lrem n54 10) fun n55 =>
                          zLet (zF2 .ladd 48 n55) fun n56 =>
                          zLet (zF1 .l2i n56) fun n57 =>
                          zLet (fn87 [n57] g10) fun p10 =>
                          zLet p10.2.2 fun g11 =>
                          zLet (n0 / 1) fun n58 =>
                          zLet (zF2 .lrem n58 10) fun n59 =>
                          zLet (zF2 .ladd 48 n59) fun n60 =>
                          zLet (zF1 .l2i n60) fun n61 =>
                          zLet (fn87 [n61] g11) fun p11 =>
                          zLet p11.2.2 fun g12 =>
                          (0, 0, g12)
  else
    zLet (fn87 [45] g0) fun p0 =>
    zLet p0.2.2 fun g1 =>
    zLet (zF1 .lneg n0) fun n2 =>
    zLet (n2 / 1) fun n3 =>
    if n3 ≤ 9 then
      zLet (n2 / 1) fun n4 =>
      zLet (zF2 .lrem n4 10) fun n5 =>
      zLet (zF2 .ladd 48 n5) fun n6 =>
      zLet (zF1 .l2i n6) fun n7 =>
      zLet (fn87 [n7] g1) fun p1 =>
      zLet p1.2.2 fun g2 =>
      (0, 0, g2)
    else
      zLet (n2 / 10) fun n4 =>
      if n4 ≤ 9 then
        zLet (n2 / 10) fun n5 =>
        zLet (zF2 .lrem n5 10) fun n6 =>
        zLet (zF2 .ladd 48 n6) fun n7 =>
        zLet (zF1 .l2i n7) fun n8 =>
        zLet (fn87 [n8] g1) fun p1 =>
        zLet p1.2.2 fun g2 =>
        zLet (n2 / 1) fun n9 =>
        zLet (zF2 .lrem n9 10) fun n10 =>
        zLet (zF2 .ladd 48 n10) fun n11 =>
        zLet (zF1 .l2i n11) fun n12 =>
        zLet (fn87 [n12] g2) fun p2 =>
        zLet p2.2.2 fun g3 =>
        (0, 0, g3)
      else
        zLet (n2 / 100) fun n5 =>
        if n5 ≤ 9 then
          zLet (n2 / 100) fun n6 =>
          zLet (zF2 .lrem n6 10) fun n7 =>
          zLet (zF2 .ladd 48 n7) fun n8 =>
          zLet (zF1 .l2i n8) fun n9 =>
          zLet (fn87 [n9] g1) fun p1 =>
          zLet p1.2.2 fun g2 =>
          zLet (n2 / 10) fun n10 =>
          zLet (zF2 .lrem n10 10) fun n11 =>
          zLet (zF2 .ladd 48 n11) fun n12 =>
          zLet (zF1 .l2i n12) fun n13 =>
          zLet (fn87 [n13] g2) fun p2 =>
          zLet p2.2.2 fun g3 =>
          zLet (n2 / 1) fun n14 =>
          zLet (zF2 .lrem n14 10) fun n15 =>
          zLet (zF2 .ladd 48 n15) fun n16 =>
          zLet (zF1 .l2i n16) fun n17 =>
          zLet (fn87 [n17] g3) fun p3 =>
          zLet p3.2.2 fun g4 =>
          (0, 0, g4)
        else
          zLet (n2 / 1000) fun n6 =>
          if n6 ≤ 9 then
            zLet (n2 / 1000) fun n7 =>
            zLet (zF2 .lrem n7 10) fun n8 =>
            zLet (zF2 .ladd 48 n8) fun n9 =>
            zLet (zF1 .l2i n9) fun n10 =>
            zLet (fn87 [n10] g1) fun p1 =>
            zLet p1.2.2 fun g2 =>
            zLet (n2 / 100) fun n11 =>
            zLet (zF2 .lrem n11 10) fun n12 =>
            zLet (zF2 .ladd 48 n12) fun n13 =>
            zLet (zF1 .l2i n13) fun n14 =>
            zLet (fn87 [n14] g2) fun p2 =>
            zLet p2.2.2 fun g3 =>
            zLet (n2 / 10) fun n15 =>
            zLet (zF2 .lrem n15 10) fun n16 =>
            zLet (zF2 .ladd 48 n16) fun n17 =>
            zLet (zF1 .l2i n17) fun n18 =>
            zLet (fn87 [n18] g3) fun p3 =>
            zLet p3.2.2 fun g4 =>
            zLet (n2 / 1) fun n19 =>
            zLet (zF2 .lrem n19 10) fun n20 =>
            zLet (zF2 .ladd 48 n20) fun n21 =>
            zLet (zF1 .l2i n21) fun n22 =>
            zLet (fn87 [n22] g4) fun p4 =>
            zLet p4.2.2 fun g5 =>
            (0, 0, g5)
          else
            zLet (n2 / 10000) fun n7 =>
            if n7 ≤ 9 then
              zLet (n2 / 10000) fun n8 =>
              zLet (zF2 .lrem n8 10) fun n9 =>
              zLet (zF2 .ladd 48 n9) fun n10 =>
              zLet (zF1 .l2i n10) fun n11 =>
              zLet (fn87 [n11] g1) fun p1 =>
              zLet p1.2.2 fun g2 =>
              zLet (n2 / 1000) fun n12 =>
              zLet (zF2 .lrem n12 10) fun n13 =>
              zLet (zF2 .ladd 48 n13) fun n14 =>
              zLet (zF1 .l2i n14) fun n15 =>
              zLet (fn87 [n15] g2) fun p2 =>
              zLet p2.2.2 fun g3 =>
              zLet (n2 / 100) fun n16 =>
              zLet (zF2 .lrem n16 10) fun n17 =>
              zLet (zF2 .ladd 48 n17) fun n18 =>
              zLet (zF1 .l2i n18) fun n19 =>
              zLet (fn87 [n19] g3) fun p3 =>
              zLet p3.2.2 fun g4 =>
              zLet (n2 / 10) fun n20 =>
              zLet (zF2 .lrem n20 10) fun n21 =>
              zLet (zF2 .ladd 48 n21) fun n22 =>
              zLet (zF1 .l2i n22) fun n23 =>
              zLet (fn87 [n23] g4) fun p4 =>
              zLet p4.2.2 fun g5 =>
              zLet (n2 / 1) fun n24 =>
              zLet (zF2 .lrem n24 10) fun n25 =>
              zLet (zF2 .ladd 48 n25) fun n26 =>
              zLet (zF1 .l2i n26) fun n27 =>
              zLet (fn87 [n27] g5) fun p5 =>
              zLet p5.2.2 fun g6 =>
              (0, 0, g6)
            else
              zLet (n2 / 100000) fun n8 =>
              if n8 ≤ 9 then
                zLet (n2 / 100000) fun n9 =>
                zLet (zF2 .lrem n9 10) fun n10 =>
                zLet (zF2 .ladd 48 n10) fun n11 =>
                zLet (zF1 .l2i n11) fun n12 =>
                zLet (fn87 [n12] g1) fun p1 =>
                zLet p1.2.2 fun g2 =>
                zLet (n2 / 10000) fun n13 =>
                zLet (zF2 .lrem n13 10) fun n14 =>
                zLet (zF2 .ladd 48 n14) fun n15 =>
                zLet (zF1 .l2i n15) fun n16 =>
                zLet (fn87 [n16] g2) fun p2 =>
                zLet p2.2.2 fun g3 =>
                zLet (n2 / 1000) fun n17 =>
                zLet (zF2 .lrem n17 10) fun n18 =>
                zLet (zF2 .ladd 48 n18) fun n19 =>
                zLet (zF1 .l2i n19) fun n20 =>
                zLet (fn87 [n20] g3) fun p3 =>
                zLet p3.2.2 fun g4 =>
                zLet (n2 / 100) fun n21 =>
                zLet (zF2 .lrem n21 10) fun n22 =>
                zLet (zF2 .ladd 48 n22) fun n23 =>
                zLet (zF1 .l2i n23) fun n24 =>
                zLet (fn87 [n24] g4) fun p4 =>
                zLet p4.2.2 fun g5 =>
                zLet (n2 / 10) fun n25 =>
                zLet (zF2 .lrem n25 10) fun n26 =>
                zLet (zF2 .ladd 48 n26) fun n27 =>
                zLet (zF1 .l2i n27) fun n28 =>
                zLet (fn87 [n28] g5) fun p5 =>
                zLet p5.2.2 fun g6 =>
                zLet (n2 / 1) fun n29 =>
                zLet (zF2 .lrem n29 10) fun n30 =>
                zLet (zF2 .ladd 48 n30) fun n31 =>
                zLet (zF1 .l2i n31) fun n32 =>
                zLet (fn87 [n32] g6) fun p6 =>
                zLet p6.2.2 fun g7 =>
                (0, 0, g7)
              else
                zLet (n2 / 1000000) fun n9 =>
                if n9 ≤ 9 then
                  zLet (n2 / 1000000) fun n10 =>
                  zLet (zF2 .lrem n10 10) fun n11 =>
                  zLet (zF2 .ladd 48 n11) fun n12 =>
                  zLet (zF1 .l2i n12) fun n13 =>
                  zLet (fn87 [n13] g1) fun p1 =>
                  zLet p1.2.2 fun g2 =>
                  zLet (n2 / 100000) fun n14 =>
                  zLet (zF2 .lrem n14 10) fun n15 =>
                  zLet (zF2 .ladd 48 n15) fun n16 =>
                  zLet (zF1 .l2i n16) fun n17 =>
                  zLet (fn87 [n17] g2) fun p2 =>
                  zLet p2.2.2 fun g3 =>
                  zLet (n2 / 10000) fun n18 =>
                  zLet (zF2 .lrem n18 10) fun n19 =>
                  zLet (zF2 .ladd 48 n19) fun n20 =>
                  zLet (zF1 .l2i n20) fun n21 =>
                  zLet (fn87 [n21] g3) fun p3 =>
                  zLet p3.2.2 fun g4 =>
                  zLet (n2 / 1000) fun n22 =>
                  zLet (zF2 .lrem n22 10) fun n23 =>
                  zLet (zF2 .ladd 48 n23) fun n24 =>
                  zLet (zF1 .l2i n24) fun n25 =>
                  zLet (fn87 [n25] g4) fun p4 =>
                  zLet p4.2.2 fun g5 =>
                  zLet (n2 / 100) fun n26 =>
                  zLet (zF2 .lrem n26 10) fun n27 =>
                  zLet (zF2 .ladd 48 n27) fun n28 =>
                  zLet (zF1 .l2i n28) fun n29 =>
                  zLet (fn87 [n29] g5) fun p5 =>
                  zLet p5.2.2 fun g6 =>
                  zLet (n2 / 10) fun n30 =>
                  zLet (zF2 .lrem n30 10) fun n31 =>
                  zLet (zF2 .ladd 48 n31) fun n32 =>
                  zLet (zF1 .l2i n32) fun n33 =>
                  zLet (fn87 [n33] g6) fun p6 =>
                  zLet p6.2.2 fun g7 =>
                  zLet (n2 / 1) fun n34 =>
                  zLet (zF2 .lrem n34 10) fun n35 =>
                  zLet (zF2 .ladd 48 n35) fun n36 =>
                  zLet (zF1 .l2i n36) fun n37 =>
                  zLet (fn87 [n37] g7) fun p7 =>
                  zLet p7.2.2 fun g8 =>
                  (0, 0, g8)
                else
                  zLet (n2 / 10000000) fun n10 =>
                  if n10 ≤ 9 then
                    zLet (n2 / 10000000) fun n11 =>
                    zLet (zF2 .lrem n11 10) fun n12 =>
                    zLet (zF2 .ladd 48 n12) fun n13 =>
                    zLet (zF1 .l2i n13) fun n14 =>
                    zLet (fn87 [n14] g1) fun p1 =>
                    zLet p1.2.2 fun g2 =>
                    zLet (n2 / 1000000) fun n15 =>
                    zLet (zF2 .lrem n15 10) fun n16 =>
                    zLet (zF2 .ladd 48 n16) fun n17 =>
                    zLet (zF1 .l2i n17) fun n18 =>
                    zLet (fn87 [n18] g2) fun p2 =>
                    zLet p2.2.2 fun g3 =>
                    zLet (n2 / 100000) fun n19 =>
                    zLet (zF2 .lrem n19 10) fun n20 =>
                    zLet (zF2 .ladd 48 n20) fun n21 =>
                    zLet (zF1 .l2i n21) fun n22 =>
                    zLet (fn87 [n22] g3) fun p3 =>
                    zLet p3.2.2 fun g4 =>
                    zLet (n2 / 10000) fun n23 =>
                    zLet (zF2 .lrem n23 10) fun n24 =>
                    zLet (zF2 .ladd 48 n24) fun n25 =>
                    zLet (zF1 .l2i n25) fun n26 =>
                    zLet (fn87 [n26] g4) fun p4 =>
                    zLet p4.2.2 fun g5 =>
                    zLet (n2 / 1000) fun n27 =>
                    zLet (zF2 .lrem n27 10) fun n28 =>
                    zLet (zF2 .ladd 48 n28) fun n29 =>
                    zLet (zF1 .l2i n29) fun n30 =>
                    zLet (fn87 [n30] g5) fun p5 =>
                    zLet p5.2.2 fun g6 =>
                    zLet (n2 / 100) fun n31 =>
                    zLet (zF2 .lrem n31 10) fun n32 =>
                    zLet (zF2 .ladd 48 n32) fun n33 =>
                    zLet (zF1 .l2i n33) fun n34 =>
                    zLet (fn87 [n34] g6) fun p6 =>
                    zLet p6.2.2 fun g7 =>
                    zLet (n2 / 10) fun n35 =>
                    zLet (zF2 .lrem n35 10) fun n36 =>
                    zLet (zF2 .ladd 48 n36) fun n37 =>
                    zLet (zF1 .l2i n37) fun n38 =>
                    zLet (fn87 [n38] g7) fun p7 =>
                    zLet p7.2.2 fun g8 =>
                    zLet (n2 / 1) fun n39 =>
                    zLet (zF2 .lrem n39 10) fun n40 =>
                    zLet (zF2 .ladd 48 n40) fun n41 =>
                    zLet (zF1 .l2i n41) fun n42 =>
                    zLet (fn87 [n42] g8) fun p8 =>
                    zLet p8.2.2 fun g9 =>
                    (0, 0, g9)
                  else
                    zLet (n2 / 100000000) fun n11 =>
                    if n11 ≤ 9 then
                      zLet (n2 / 100000000) fun n12 =>
                      zLet (zF2 .lrem n12 10) fun n13 =>
                      zLet (zF2 .ladd 48 n13) fun n14 =>
                      zLet (zF1 .l2i n14) fun n15 =>
                      zLet (fn87 [n15] g1) fun p1 =>
                      zLet p1.2.2 fun g2 =>
                      zLet (n2 / 10000000) fun n16 =>
                      zLet (zF2 .lrem n16 10) fun n17 =>
                      zLet (zF2 .ladd 48 n17) fun n18 =>
                      zLet (zF1 .l2i n18) fun n19 =>
                      zLet (fn87 [n19] g2) fun p2 =>
                      zLet p2.2.2 fun g3 =>
                      zLet (n2 / 1000000) fun n20 =>
                      zLet (zF2 .lrem n20 10) fun n21 =>
                      zLet (zF2 .ladd 48 n21) fun n22 =>
                      zLet (zF1 .l2i n22) fun n23 =>
                      zLet (fn87 [n23] g3) fun p3 =>
                      zLet p3.2.2 fun g4 =>
                      zLet (n2 / 100000) fun n24 =>
                      zLet (zF2 .lrem n24 10) fun n25 =>
                      zLet (zF2 .ladd 48 n25) fun n26 =>
                      zLet (zF1 .l2i n26) fun n27 =>
                      zLet (fn87 [n27] g4) fun p4 =>
                      zLet p4.2.2 fun g5 =>
                      zLet (n2 / 10000) fun n28 =>
                      zLet (zF2 .lrem n28 10) fun n29 =>
                      zLet (zF2 .ladd 48 n29) fun n30 =>
                      zLet (zF1 .l2i n30) fun n31 =>
                      zLet (fn87 [n31] g5) fun p5 =>
                      zLet p5.2.2 fun g6 =>
                      zLet (n2 / 1000) fun n32 =>
                      zLet (zF2 .lrem n32 10) fun n33 =>
                      zLet (zF2 .ladd 48 n33) fun n34 =>
                      zLet (zF1 .l2i n34) fun n35 =>
                      zLet (fn87 [n35] g6) fun p6 =>
                      zLet p6.2.2 fun g7 =>
                      zLet (n2 / 100) fun n36 =>
                      zLet (zF2 .lrem n36 10) fun n37 =>
                      zLet (zF2 .ladd 48 n37) fun n38 =>
                      zLet (zF1 .l2i n38) fun n39 =>
                      zLet (fn87 [n39] g7) fun p7 =>
                      zLet p7.2.2 fun g8 =>
                      zLet (n2 / 10) fun n40 =>
                      zLet (zF2 .lrem n40 10) fun n41 =>
                      zLet (zF2 .ladd 48 n41) fun n42 =>
                      zLet (zF1 .l2i n42) fun n43 =>
                      zLet (fn87 [n43] g8) fun p8 =>
                      zLet p8.2.2 fun g9 =>
                      zLet (n2 / 1) fun n44 =>
                      zLet (zF2 .lrem n44 10) fun n45 =>
                      zLet (zF2 .ladd 48 n45) fun n46 =>
                      zLet (zF1 .l2i n46) fun n47 =>
                      zLet (fn87 [n47] g9) fun p9 =>
                      zLet p9.2.2 fun g10 =>
                      (0, 0, g10)
                    else
                      zLet (n2 / 1000000000) fun n13 =>
                      zLet (zF2 .lrem n13 10) fun n14 =>
                      zLet (zF2 .ladd 48 n14) fun n15 =>
                      zLet (zF1 .l2i n15) fun n16 =>
                      zLet (fn87 [n16] g1) fun p1 =>
                      zLet p1.2.2 fun g2 =>
                      zLet (n2 / 100000000) fun n17 =>
                      zLet (zF2 .lrem n17 10) fun n18 =>
                      zLet (zF2 .ladd 48 n18) fun n19 =>
                      zLet (zF1 .l2i n19) fun n20 =>
                      zLet (fn87 [n20] g2) fun p2 =>
                      zLet p2.2.2 fun g3 =>
                      zLet (n2 / 10000000) fun n21 =>
                      zLet (zF2 .lrem n21 10) fun n22 =>
                      zLet (zF2 .ladd 48 n22) fun n23 =>
                      zLet (zF1 .l2i n23) fun n24 =>
                      zLet (fn87 [n24] g3) fun p3 =>
                      zLet p3.2.2 fun g4 =>
                      zLet (n2 / 1000000) fun n25 =>
                      zLet (zF2 .lrem n25 10) fun n26 =>
                      zLet (zF2 .ladd 48 n26) fun n27 =>
                      zLet (zF1 .l2i n27) fun n28 =>
                      zLet (fn87 [n28] g4) fun p4 =>
                      zLet p4.2.2 fun g5 =>
                      zLet (n2 / 100000) fun n29 =>
                      zLet (zF2 .lrem n29 10) fun n30 =>
                      zLet (zF2 .ladd 48 n30) fun n31 =>
                      zLet (zF1 .l2i n31) fun n32 =>
                      zLet (fn87 [n32] g5) fun p5 =>
                      zLet p5.2.2 fun g6 =>
                      zLet (n2 / 10000) fun n33 =>
                      zLet (zF2 .lrem n33 10) fun n34 =>
                      zLet (zF2 .ladd 48 n34) fun n35 =>
                      zLet (zF1 .l2i n35) fun n36 =>
                      zLet (fn87 [n36] g6) fun p6 =>
                      zLet p6.2.2 fun g7 =>
                      zLet (n2 / 1000) fun n37 =>
                      zLet (zF2 .lrem n37 10) fun n38 =>
                      zLet (zF2 .ladd 48 n38) fun n39 =>
                      zLet (zF1 .l2i n39) fun n40 =>
                      zLet (fn87 [n40] g7) fun p7 =>
                      zLet p7.2.2 fun g8 =>
                      zLet (n2 / 100) fun n41 =>
                      zLet (zF2 .lrem n41 10) fun n42 =>
                      zLet (zF2 .ladd 48 n42) fun n43 =>
                      zLet (zF1 .l2i n43) fun n44 =>
                      zLet (fn87 [n44] g8) fun p8 =>
                      zLet p8.2.2 fun g9 =>
                      zLet (n2 / 10) fun n45 =>
                      zLet (zF2 .lrem n45 10) fun n46 =>
                      zLet (zF2 .ladd 48 n46) fun n47 =>
                      zLet (zF1 .l2i n47) fun n48 =>
                      zLet (fn87 [n48] g9) fun p9 =>
                      zLet p9.2.2 fun g10 =>
                      zLet (n2 / 1) fun n49 =>
                      zLet (zF2 .lrem n49 10) fun n50 =>
                      zLet (zF2 .ladd 48 n50) fun n51 =>
                      zLet (zF1 .l2i n51) fun n52 =>
                      zLet (fn87 [n52] g10) fun p10 =>
                      zLet p10.2.2 fun g11 =>
                      (0, 0, g11)
noncomputable def sn88 : zSpc := fun a g o v g_q => (o, v, g_q) = fn88 [a.getD 0 0] g
noncomputable def dn89 (x : List Int) (g0 : rHp) : zSt :=
  zLet (x.getD 0 0) fun n0 =>
  zLet (g0 15 0 59) fun n5 =>
  if n5 ≠ 0 then
    zLet (fn79 [n0] g0) fun p0 =>
    zLet p0.2.2 fun g1 =>
    if 1 ≤ p0.2.1 then
      zLet (fn1 [0] g1) fun p1 =>
      zLet p1.2.2 fun g2 =>
      zLet (g0 93 0 n0) fun n6 =>
      zLet (rUp g2 15 0 4 0) fun g3 =>
      .inl (0, [n0, 0, n6], g3)
    else
      zLet (fn1 [2] g1) fun p1 =>
      zLet p1.2.2 fun g2 =>
      .inr (0, 0, g2)
  else
    zLet (fn1 [1] g0) fun p0 =>
    zLet p0.2.2 fun g1 =>
    .inr (0, 0, g1)
noncomputable def en89 (g0 : rHp) (s : Nat × List Int × rHp) : zSt :=
  if s.1 = 0 then
    zLet s.2.2 fun g1 =>
    zLet (s.2.1.getD 0 0) fun n0 =>
    zLet (s.2.1.getD 1 0) fun n5 =>
    zLet (s.2.1.getD 2 0) fun n6 =>
    zLet (g0 65 0 n6) fun n9 =>
    if n5 ≥ n9 then
      .inl (1, [n0, 0, n6], g1)
    else
      zLet (g0 64 0 (12 * n6 + n5)) fun n10 =>
      zLet (fn87 [n10] g1) fun p1 =>
      zLet p1.2.2 fun g2 =>
      .inl (0, [n0, n5 + 1, n6], g2)
  else if s.1 = 1 then
    zLet s.2.2 fun g1 =>
    zLet (s.2.1.getD 0 0) fun n0 =>
    zLet (s.2.1.getD 1 0) fun n5 =>
    zLet (s.2.1.getD 2 0) fun n6 =>
    zLet (g1 15 0 4) fun n7 =>
    zLet (g0 66 0 n6) fun n9 =>
    if n5 ≥ n9 then
      zLet (fn87 [41] g1) fun p1 =>
      zLet p1.2.2 fun g2 =>
      .inr (0, n7 + 1, g2)
    else
      if n5 ≠ 0 then
        zLet (fn87 [44] g1) fun p1 =>
        zLet p1.2.2 fun g2 =>
        zLet (g0 99 0 (n5 + 4 * n0)) fun n10 =>
        zLet (fn55 [n10] g2) fun p2 =>
        zLet p2.2.2 fun g3 =>
        if 1 ≤ p2.2.1 then
          zLet (fn88 [n10] g3) fun p3 =>
          zLet p3.2.2 fun g4 =>
          .inl (1, [n0, n5 + 1, n6], g4)
        else
          .inl (2, [n0, 0, n10 + (-1099511627776), n10, n5, n6], g3)
      else
        zLet (fn87 [40] g1) fun p1 =>
        zLet p1.2.2 fun g2 =>
        zLet (g0 99 0 (n5 + 4 * n0)) fun n10 =>
        zLet (fn55 [n10] g2) fun p2 =>
        zLet p2.2.2 fun g3 =>
        if 1 ≤ p2.2.1 then
          zLet (fn88 [n10] g3) fun p3 =>
          zLet p3.2.2 fun g4 =>
          .inl (1, [n0, n5 + 1, n6], g4)
        else
          .inl (2, [n0, 0, n10 + (-1099511627776), n10, n5, n6], g3)
  else if s.1 = 2 then
    zLet s.2.2 fun g1 =>
    zLet (s.2.1.getD 0 0) fun n0 =>
    zLet (s.2.1.getD 1 0) fun n5 =>
    zLet (s.2.1.getD 2 0) fun n6 =>
    zLet (s.2.1.getD 3 0) fun n7 =>
    zLet (s.2.1.getD 4 0) fun n8 =>
    zLet (s.2.1.getD 5 0) fun n9 =>
    zLet (g0 63 0 n6) fun n12 =>
    if n5 ≥ n12 then
      .inl (1, [n0, n8 + 1, n9], g1)
    else
      zLet (g0 62 0 n6) fun n13 =>
      zLet (g0 61 0 (n13 + n5)) fun n14 =>
      zLet (fn87 [n14] g1) fun p1 =>
      zLet p1.2.2 fun g2 =>
      .inl (2, [n0, n5 + 1, n6, n7, n8, n9], g2)
  else .inr (0, 0, g0)
noncomputable def fn89 (x : List Int) (g : rHp) : zR := zGoo (en89 g) (dn89 x g)
noncomputable def sn89 : zSpc := fun a g o v g_q => (o, v, g_q) = fn89 [a.getD 0 0] g
noncomputable def pl89 : Nat → List Int → List Int
  | 0, vs => [vs.getD 0 0, vs.getD 5 0, vs.getD 6 0]
  | 1, vs => [vs.getD 0 0, vs.getD 5 0, vs.getD 6 0]
  | 2, vs => [vs.getD 0 0, vs.getD 5 0, vs.getD 6 0, vs.getD 7 0, vs.getD 8 0, vs.getD 9 0]
  | _, _ => []
noncomputable def jn89 : List Int → rHp → Nat → List Int → rHp → Prop := fun a g i vs g1 => fn89 [a.getD 0 0] g = zLoop (en89 g) (i, pl89 i vs, g1)
noncomputable def dn90 (x : List Int) (g0 : rHp) : zSt :=
  zLet (g0 15 0 3) fun n2 =>
  zLet (g0 15 0 13) fun n3 =>
  zLet (g0 15 0 59) fun n4 =>
  zLet (fn5 [] g0) fun p0 =>
  zLet p0.2.2 fun g1 =>
  if n4 ≠ 0 then
    zLet (fn1 [0] g1) fun p1 =>
    zLet p1.2.2 fun g2 =>
    zLet (rUp g2 15 0 14 n3) fun g3 =>
    zLet (fn32 [61] g3) fun p3 =>
    zLet p3.2.2 fun g4 =>
    zLet (fn27 [] g4) fun p4 =>
    zLet p4.2.2 fun g5 =>
    if 1 ≤ p4.2.1 then
      zLet (g5 15 0 46) fun n31 =>
      zLet (g5 15 0 47) fun n32 =>
      zLet (g5 15 0 48) fun n33 =>
      zLet (fn31 [] g5) fun p5 =>
      zLet p5.2.2 fun g6 =>
      if 1 ≤ p5.2.1 then
        zLet (fn7 [] g6) fun p6 =>
        zLet p6.2.2 fun g7 =>
        zLet (g7 15 0 35) fun n34 =>
        if n34 = n2 then
          zLet (fn21 [n31, n32, n33] g7) fun p7 =>
          zLet p7.2.2 fun g8 =>
          zLet (p7.2.1) fun n35 =>
          if n35 ≥ 0 then
            .inl (0, [0, n35], g8)
          else
            .inr (0, (-1), g8)
        else
          zLet (fn8 [n34] g7) fun p7 =>
          zLet p7.2.2 fun g8 =>
          zLet (g8 15 0 36) fun n35 =>
          .inr (0, -n35 + (-2), g8)
      else
        zLet (g6 15 0 36) fun n34 =>
        .inr (0, -n34 + (-2), g6)
    else
      zLet (g5 15 0 36) fun n28 =>
      .inr (0, -n28 + (-2), g5)
  else
    zLet (fn1 [1] g1) fun p1 =>
    zLet p1.2.2 fun g2 =>
    .inr (0, 0, g2)
noncomputable def en90 (g0 : rHp) (s : Nat × List Int × rHp) : zSt :=
  if s.1 = 0 then
    zLet s.2.2 fun g1 =>
    zLet (s.2.1.getD 0 0) fun n22 =>
    zLet (s.2.1.getD 1 0) fun n23 =>
    zLet (g1 15 0 48) fun n35 =>
    if n22 ≥ n35 then
      zLet (fn56 [n23] g1) fun p1 =>
      zLet p1.2.2 fun g2 =>
      zLet (p1.2.1) fun n39 =>
      .inr (0, n39, g2)
    else
      zLet (g1 87 0 n22) fun n39 =>
      zLet (rUp g1 102 0 n22 n39) fun g2 =>
      .inl (0, [n22 + 1, n23], g2)
  else .inr (0, 0, g0)
noncomputable def fn90 (x : List Int) (g : rHp) : zR := zGoo (en90 g) (dn90 x g)
noncomputable def sn90 : zSpc := fun a g o v g_q => (o, v, g_q) = fn90 [] g
noncomputable def pl90 : Nat → List Int → List Int
  | 0, vs => [vs.getD 22 0, vs.getD 23 0]
  | _, _ => []
noncomputable def jn90 : List Int → rHp → Nat → List Int → rHp → Prop := fun a g i vs g1 => fn90 [] g = zLoop (en90 g) (i, pl90 i vs, g1)
noncomputable def dn91 (x : List Int) (g0 : rHp) : zSt :=
  zLet (g0 15 0 3) fun n2 =>
  zLet (g0 15 0 13) fun n3 =>
  zLet (g0 15 0 59) fun n7 =>
  zLet (g0 15 0 71) fun n20 =>
  zLet (fn5 [] g0) fun p0 =>
  zLet p0.2.2 fun g1 =>
  if n7 ≠ 0 then
    zLet (fn1 [0] g1) fun p1 =>
    zLet p1.2.2 fun g2 =>
    zLet (rUp g2 15 0 14 n3) fun g3 =>
    zLet (fn32 [61] g3) fun p3 =>
    zLet p3.2.2 fun g4 =>
    zLet (fn38 [0] g4) fun p4 =>
    zLet p4.2.2 fun g5 =>
    if 1 ≤ p4.2.1 then
      zLet (fn7 [] g5) fun p5 =>
      zLet p5.2.2 fun g6 =>
      zLet (g6 15 0 35) fun n38 =>
      if n38 = n2 then
        zLet (fn28 [] g6) fun p6 =>
        zLet p6.2.2 fun g7 =>
        if 1 ≤ p6.2.1 then
          zLet (fn44 [] g7) fun p7 =>
          zLet p7.2.2 fun g8 =>
          zLet (rUp g8 15 0 81 n20) fun g9 =>
          zLet (rUp g9 15 0 84 0) fun g10 =>
          zLet (rUp g10 15 0 72 0) fun g11 =>
          zLet (rUp g11 15 0 77 0) fun g12 =>
          zLet (rUp g12 15 0 94 0) fun g13 =>
          zLet (fn74 [] g13) fun p13 =>
          zLet p13.2.2 fun g14 =>
          zLet (g14 15 0 72) fun n39 =>
          zLet (g14 15 0 77) fun n40 =>
          zLet (g14 15 0 94) fun n41 =>
          zLet (fn1 [n40] g14) fun p14 =>
          zLet p14.2.2 fun g15 =>
          if 1 ≤ p14.2.1 then
            .inr (0, 0, g15)
          else
            zLet (rUp g15 15 0 74 n39) fun g16 =>
            zLet (rUp g16 15 0 93 n41) fun g17 =>
            zLet (g8 75 0 61) fun n42 =>
            zLet (rUp g17 15 0 95 n42) fun g18 =>
            .inl (0, [0], g18)
        else
          zLet (g7 15 0 36) fun n39 =>
          .inr (0, -n39 + (-1), g7)
      else
        zLet (fn8 [n38] g6) fun p6 =>
        zLet p6.2.2 fun g7 =>
        zLet (g7 15 0 36) fun n39 =>
        .inr (0, -n39 + (-1), g7)
    else
      zLet (g5 15 0 36) fun n34 =>
      .inr (0, -n34 + (-1), g5)
  else
    zLet (fn1 [1] g1) fun p1 =>
    zLet p1.2.2 fun g2 =>
    .inr (0, 0, g2)
noncomputable def en91 (g0 : rHp) (s : Nat × List Int × rHp) : zSt :=
  if s.1 = 0 then
    zLet s.2.2 fun g1 =>
    zLet (s.2.1.getD 0 0) fun n27 =>
    zLet (g1 15 0 93) fun n43 =>
    if n27 ≥ 800 then
      .inr (0, n43, g1)
    else
      zLet (g1 111 0 n27) fun n45 =>
      zLet (rUp g1 110 0 n27 n45) fun g2 =>
      .inl (0, [n27 + 1], g2)
  else .inr (0, 0, g0)
noncomputable def fn91 (x : List Int) (g : rHp) : zR := zGoo (en91 g) (dn91 x g)
noncomputable def sn91 : zSpc := fun a g o v g_q => (o, v, g_q) = fn91 [] g
noncomputable def pl91 : Nat → List Int → List Int
  | 0, vs => [vs.getD 27 0]
  | _, _ => []
noncomputable def jn91 : List Int → rHp → Nat → List Int → rHp → Prop := fun a g i vs g1 => fn91 [] g = zLoop (en91 g) (i, pl91 i vs, g1)
noncomputable def dn92 (x : List Int) (g0 : rHp) : zSt :=
  zLet (x.getD 0 0) fun n0 =>
  .inl (0, [n0, 0], g0)
noncomputable def en92 (g0 : rHp) (s : Nat × List Int × rHp) : zSt :=
  if s.1 = 0 then
    zLet s.2.2 fun g1 =>
    zLet (s.2.1.getD 0 0) fun n0 =>
    zLet (s.2.1.getD 1 0) fun n2 =>
    zLet (g0 3 0 1) fun n1 =>
    if n2 ≥ n1 then
      if n1 < 5120 then
        zLet (rUp g1 26 0 n1 n0) fun g2 =>
        zLet (rUp g2 3 0 1 (n1 + 1)) fun g3 =>
        .inr (0, n1, g3)
      else
        .inr (0, (-1), g1)
    else
      zLet (g0 26 0 n2) fun n3 =>
      if n3 ≠ n0 then
        .inl (0, [n0, n2 + 1], g1)
      else
        .inr (0, n2, g1)
  else .inr (0, 0, g0)
noncomputable def fn92 (x : List Int) (g : rHp) : zR := zGoo (en92 g) (dn92 x g)
noncomputable def sn92 : zSpc := fun a g o v g_q => (o, v, g_q) = fn92 [a.getD 0 0] g
noncomputable def pl92 : Nat → List Int → List Int
  | 0, vs => [vs.getD 0 0, vs.getD 2 0]
  | _, _ => []
noncomputable def jn92 : List Int → rHp → Nat → List Int → rHp → Prop := fun a g i vs g1 => fn92 [a.getD 0 0] g = zLoop (en92 g) (i, pl92 i vs, g1)
noncomputable def fn93 (x : List Int) (g0 : rHp) : zR :=
  zLet (x.getD 0 0) fun n0 =>
  zLet (g0 3 0 1) fun n1 =>
  if n0 < 0 then
    (0, 0, g0)
  else
    if n0 ≥ n1 then
      (0, 0, g0)
    else
      zLet (g0 26 0 n0) fun n2 =>
      (0, n2, g0)
noncomputable def sn93 : zSpc := fun a g o v g_q => (o, v, g_q) = fn93 [a.getD 0 0] g
noncomputable def dn94 (x : List Int) (g0 : rHp) : zSt :=
  zLet (x.getD 0 0) fun n0 =>
  .inl (0, [n0, 0], g0)
noncomputable def en94 (g0 : rHp) (s : Nat × List Int × rHp) : zSt :=
  if s.1 = 0 then
    zLet s.2.2 fun g1 =>
    zLet (s.2.1.getD 0 0) fun n0 =>
    zLet (s.2.1.getD 1 0) fun n1 =>
    if n1 ≥ 20 then
      .inr (0, 0, g1)
    else
      zLet (rUp g1 18 0 n1 n0) fun g2 =>
      .inl (0, [n0, n1 + 1], g2)
  else .inr (0, 0, g0)
noncomputable def fn94 (x : List Int) (g : rHp) : zR := zGoo (en94 g) (dn94 x g)
noncomputable def sn94 : zSpc := fun a g o v g_q => (o, v, g_q) = fn94 [a.getD 0 0] g
noncomputable def pl94 : Nat → List Int → List Int
  | 0, vs => [vs.getD 0 0, vs.getD 1 0]
  | _, _ => []
noncomputable def jn94 : List Int → rHp → Nat → List Int → rHp → Prop := fun a g i vs g1 => fn94 [a.getD 0 0] g = zLoop (en94 g) (i, pl94 i vs, g1)
noncomputable def dn95 (x : List Int) (g0 : rHp) : zSt :=
  zLet (x.getD 0 0) fun n0 =>
  .inl (0, [n0, 0], g0)
noncomputable def en95 (g0 : rHp) (s : Nat × List Int × rHp) : zSt :=
  if s.1 = 0 then
    zLet s.2.2 fun g1 =>
    zLet (s.2.1.getD 0 0) fun n0 =>
    zLet (s.2.1.getD 1 0) fun n1 =>
    if n1 ≥ 64 then
      .inr (0, 0, g1)
    else
      zLet (rUp g1 47 0 n1 n0) fun g2 =>
      .inl (0, [n0, n1 + 1], g2)
  else .inr (0, 0, g0)
noncomputable def fn95 (x : List Int) (g : rHp) : zR := zGoo (en95 g) (dn95 x g)
noncomputable def sn95 : zSpc := fun a g o v g_q => (o, v, g_q) = fn95 [a.getD 0 0] g
noncomputable def pl95 : Nat → List Int → List Int
  | 0, vs => [vs.getD 0 0, vs.getD 1 0]
  | _, _ => []
noncomputable def jn95 : List Int → rHp → Nat → List Int → rHp → Prop := fun a g i vs g1 => fn95 [a.getD 0 0] g = zLoop (en95 g) (i, pl95 i vs, g1)
noncomputable def dn96 (x : List Int) (g0 : rHp) : zSt :=
  zLet (x.getD 0 0) fun n0 =>
  .inl (0, [n0, 0], g0)
noncomputable def en96 (g0 : rHp) (s : Nat × List Int × rHp) : zSt :=
  if s.1 = 0 then
    zLet s.2.2 fun g1 =>
    zLet (s.2.1.getD 0 0) fun n0 =>
    zLet (s.2.1.getD 1 0) fun n1 =>
    if n1 ≥ 4096 then
      .inr (0, 0, g1)
    else
      zLet (rUp g1 50 0 n1 n0) fun g2 =>
      .inl (0, [n0, n1 + 1], g2)
  else .inr (0, 0, g0)
noncomputable def fn96 (x : List Int) (g : rHp) : zR := zGoo (en96 g) (dn96 x g)
noncomputable def sn96 : zSpc := fun a g o v g_q => (o, v, g_q) = fn96 [a.getD 0 0] g
noncomputable def pl96 : Nat → List Int → List Int
  | 0, vs => [vs.getD 0 0, vs.getD 1 0]
  | _, _ => []
noncomputable def jn96 : List Int → rHp → Nat → List Int → rHp → Prop := fun a g i vs g1 => fn96 [a.getD 0 0] g = zLoop (en96 g) (i, pl96 i vs, g1)
noncomputable def dn97 (x : List Int) (g0 : rHp) : zSt :=
  zLet (x.getD 0 0) fun n0 =>
  .inl (0, [n0, 0], g0)
noncomputable def en97 (g0 : rHp) (s : Nat × List Int × rHp) : zSt :=
  if s.1 = 0 then
    zLet s.2.2 fun g1 =>
    zLet (s.2.1.getD 0 0) fun n0 =>
    zLet (s.2.1.getD 1 0) fun n1 =>
    if n1 ≥ 2048 then
      .inr (0, 0, g1)
    else
      zLet (rUp g1 53 0 n1 n0) fun g2 =>
      .inl (0, [n0, n1 + 1], g2)
  else .inr (0, 0, g0)
noncomputable def fn97 (x : List Int) (g : rHp) : zR := zGoo (en97 g) (dn97 x g)
noncomputable def sn97 : zSpc := fun a g o v g_q => (o, v, g_q) = fn97 [a.getD 0 0] g
noncomputable def pl97 : Nat → List Int → List Int
  | 0, vs => [vs.getD 0 0, vs.getD 1 0]
  | _, _ => []
noncomputable def jn97 : List Int → rHp → Nat → List Int → rHp → Prop := fun a g i vs g1 => fn97 [a.getD 0 0] g = zLoop (en97 g) (i, pl97 i vs, g1)
noncomputable def dn98 (x : List Int) (g0 : rHp) : zSt :=
  zLet (x.getD 0 0) fun n0 =>
  .inl (0, [n0, 0], g0)
noncomputable def en98 (g0 : rHp) (s : Nat × List Int × rHp) : zSt :=
  if s.1 = 0 then
    zLet s.2.2 fun g1 =>
    zLet (s.2.1.getD 0 0) fun n0 =>
    zLet (s.2.1.getD 1 0) fun n1 =>
    if n1 ≥ 512 then
      .inr (0, 0, g1)
    else
      zLet (rUp g1 56 0 n1 n0) fun g2 =>
      .inl (0, [n0, n1 + 1], g2)
  else .inr (0, 0, g0)
noncomputable def fn98 (x : List Int) (g : rHp) : zR := zGoo (en98 g) (dn98 x g)
noncomputable def sn98 : zSpc := fun a g o v g_q => (o, v, g_q) = fn98 [a.getD 0 0] g
noncomputable def pl98 : Nat → List Int → List Int
  | 0, vs => [vs.getD 0 0, vs.getD 1 0]
  | _, _ => []
noncomputable def jn98 : List Int → rHp → Nat → List Int → rHp → Prop := fun a g i vs g1 => fn98 [a.getD 0 0] g = zLoop (en98 g) (i, pl98 i vs, g1)
noncomputable def dn99 (x : List Int) (g0 : rHp) : zSt :=
  zLet (x.getD 0 0) fun n0 =>
  zLet (x.getD 1 0) fun n1 =>
  .inl (0, [n0, n1, 0], g0)
noncomputable def en99 (g0 : rHp) (s : Nat × List Int × rHp) : zSt :=
  if s.1 = 0 then
    zLet s.2.2 fun g1 =>
    zLet (s.2.1.getD 0 0) fun n0 =>
    zLet (s.2.1.getD 1 0) fun n1 =>
    zLet (s.2.1.getD 2 0) fun n2 =>
    if n2 ≥ 4 then
      .inr (0, 0, g1)
    else
      zLet (rUp g1 46 n0 n2 n1) fun g2 =>
      .inl (0, [n0, n1, n2 + 1], g2)
  else .inr (0, 0, g0)
noncomputable def fn99 (x : List Int) (g : rHp) : zR := zGoo (en99 g) (dn99 x g)
noncomputable def sn99 : zSpc := fun a g o v g_q => (o, v, g_q) = fn99 [a.getD 0 0, a.getD 1 0] g
noncomputable def pl99 : Nat → List Int → List Int
  | 0, vs => [vs.getD 0 0, vs.getD 1 0, vs.getD 2 0]
  | _, _ => []
noncomputable def jn99 : List Int → rHp → Nat → List Int → rHp → Prop := fun a g i vs g1 => fn99 [a.getD 0 0, a.getD 1 0] g = zLoop (en99 g) (i, pl99 i vs, g1)
noncomputable def fn100 (x : List Int) (g0 : rHp) : zR :=
  zLet (x.getD 0 0) fun n0 =>
  zLet (x.getD 1 0) fun n1 =>
  if n0 > n1 then
    (0, n1, g0)
  else
    (0, n0, g0)
noncomputable def sn100 : zSpc := fun a g o v g_q => (o, v, g_q) = fn100 [a.getD 0 0, a.getD 1 0] g
noncomputable def fn101 (x : List Int) (g0 : rHp) : zR :=
  zLet (x.getD 0 0) fun n0 =>
  zLet (x.getD 1 0) fun n1 =>
  if n0 < n1 then
    (0, n1, g0)
  else
    (0, n0, g0)
noncomputable def sn101 : zSpc := fun a g o v g_q => (o, v, g_q) = fn101 [a.getD 0 0, a.getD 1 0] g
noncomputable def fn102 (x : List Int) (g0 : rHp) : zR :=
  zLet (x.getD 0 0) fun n0 =>
  zLet (x.getD 1 0) fun n1 =>
  zLet (g0 1 0 10) fun n2 =>
  zLet (g0 40 0 n2) fun n3 =>
  zLet (rUp g0 10 (9 * n3) 4 0) fun g1 =>
  zLet (rUp g1 10 (9 * n3) 6 n0) fun g2 =>
  zLet (rUp g2 10 (9 * n3) 7 n1) fun g3 =>
  zLet (rUp g3 10 (9 * n3) 5 0) fun g4 =>
  zLet (rUp g4 10 (9 * n3) 8 ((-1))) fun g5 =>
  zLet (rUp g5 10 (9 * n3) 9 ((-1))) fun g6 =>
  zLet (rUp g6 10 (9 * n3) 12 0) fun g7 =>
  zLet (fn99 [9 * n3, 0] g7) fun p7 =>
  zLet p7.2.2 fun g8 =>
  (0, 0, g8)
noncomputable def sn102 : zSpc := fun a g o v g_q => (o, v, g_q) = fn102 [a.getD 0 0, a.getD 1 0] g
noncomputable def fn103 (x : List Int) (g0 : rHp) : zR :=
  zLet (x.getD 0 0) fun n0 =>
  zLet (x.getD 1 0) fun n1 =>
  zLet (x.getD 2 0) fun n2 =>
  zLet (g0 1 0 10) fun n3 =>
  zLet (g0 40 0 n3) fun n4 =>
  zLet (g0 9 n4 2) fun n5 =>
  zLet (rUp g0 10 (n5 + 9 * n4 + 1) 4 n0) fun g1 =>
  zLet (rUp g1 10 (n5 + 9 * n4 + 1) 6 n1) fun g2 =>
  zLet (rUp g2 10 (n5 + 9 * n4 + 1) 7 n2) fun g3 =>
  zLet (rUp g3 10 (n5 + 9 * n4 + 1) 5 0) fun g4 =>
  zLet (rUp g4 10 (n5 + 9 * n4 + 1) 8 ((-1))) fun g5 =>
  zLet (rUp g5 10 (n5 + 9 * n4 + 1) 9 ((-1))) fun g6 =>
  zLet (rUp g6 10 (n5 + 9 * n4 + 1) 12 0) fun g7 =>
  zLet (fn99 [n5 + 9 * n4 + 1, 0] g7) fun p7 =>
  zLet p7.2.2 fun g8 =>
  (0, 0, g8)
noncomputable def sn103 : zSpc := fun a g o v g_q => (o, v, g_q) = fn103 [a.getD 0 0, a.getD 1 0, a.getD 2 0] g
noncomputable def fn104 (x : List Int) (g0 : rHp) : zR :=
  zLet (x.getD 0 0) fun n0 =>
  zLet (x.getD 1 0) fun n1 =>
  zLet (x.getD 2 0) fun n2 =>
  zLet (x.getD 3 0) fun n3 =>
  zLet (x.getD 4 0) fun n4 =>
  zLet (g0 10 n0 5) fun n5 =>
  if n5 ≥ 4 then
    (0, 0, g0)
  else
    zLet (rUp g0 43 n0 n5 n1) fun g1 =>
    zLet (rUp g1 45 n0 n5 n2) fun g2 =>
    zLet (rUp g2 44 n0 n5 n3) fun g3 =>
    zLet (rUp g3 46 n0 n5 n4) fun g4 =>
    zLet (rUp g4 10 n0 5 (n5 + 1)) fun g5 =>
    (0, 0, g5)
noncomputable def sn104 : zSpc := fun a g o v g_q => (o, v, g_q) = fn104 [a.getD 0 0, a.getD 1 0, a.getD 2 0, a.getD 3 0, a.getD 4 0] g
noncomputable def fn105 (x : List Int) (g0 : rHp) : zR :=
  zLet (x.getD 0 0) fun n0 =>
  if n0 < 97 then
    (0, 0, g0)
  else
    if n0 > 122 then
      (0, 0, g0)
    else
      (0, 1, g0)
noncomputable def sn105 : zSpc := fun a g o v g_q => (o, v, g_q) = fn105 [a.getD 0 0] g
noncomputable def fn106 (x : List Int) (g0 : rHp) : zR :=
  zLet (x.getD 0 0) fun n0 =>
  if n0 < 65 then
    (0, 0, g0)
  else
    if n0 > 90 then
      (0, 0, g0)
    else
      (0, 1, g0)
noncomputable def sn106 : zSpc := fun a g o v g_q => (o, v, g_q) = fn106 [a.getD 0 0] g
noncomputable def fn107 (x : List Int) (g0 : rHp) : zR :=
  zLet (x.getD 0 0) fun n0 =>
  if n0 < 48 then
    (0, 0, g0)
  else
    if n0 > 57 then
      (0, 0, g0)
    else
      (0, 1, g0)
noncomputable def sn107 : zSpc := fun a g o v g_q => (o, v, g_q) = fn107 [a.getD 0 0] g
noncomputable def fn108 (x : List Int) (g0 : rHp) : zR :=
  zLet (x.getD 0 0) fun n0 =>
  if n0 < 97 then
    if n0 < 48 then
      (0, 0, g0)
    else
      if n0 > 57 then
        if n0 ≠ 95 then
          (0, 0, g0)
        else
          (0, 37, g0)
      else
        (0, n0 + (-21), g0)
  else
    if n0 > 122 then
      (0, 0, g0)
    else
      (0, n0 + (-96), g0)
noncomputable def sn108 : zSpc := fun a g o v g_q => (o, v, g_q) = fn108 [a.getD 0 0] g
noncomputable def fn109 (x : List Int) (g0 : rHp) : zR :=
  zLet (x.getD 0 0) fun n0 =>
  zLet (rUp g0 2 0 4 n0) fun g1 =>
  (0, 0, g1)
noncomputable def sn109 : zSpc := fun a g o v g_q => (o, v, g_q) = fn109 [a.getD 0 0] g
noncomputable def fn110 (x : List Int) (g0 : rHp) : zR :=
  zLet (rUp g0 2 0 13 0) fun g1 =>
  zLet (rUp g1 2 0 16 0) fun g2 =>
  zLet (rUp g2 2 0 5 0) fun g3 =>
  (0, 0, g3)
noncomputable def sn110 : zSpc := fun a g o v g_q => (o, v, g_q) = fn110 [] g
noncomputable def fn111 (x : List Int) (g0 : rHp) : zR :=
  zLet (x.getD 0 0) fun n0 =>
  zLet (rUp g0 2 0 7 n0) fun g1 =>
  zLet (rUp g1 2 0 6 0) fun g2 =>
  zLet (fn110 [] g2) fun p2 =>
  zLet p2.2.2 fun g3 =>
  (0, 0, g3)
noncomputable def sn111 : zSpc := fun a g o v g_q => (o, v, g_q) = fn111 [a.getD 0 0] g
noncomputable def fn112 (x : List Int) (g0 : rHp) : zR :=
  zLet (rUp g0 2 0 3 0) fun g1 =>
  (0, 0, g1)
noncomputable def sn112 : zSpc := fun a g o v g_q => (o, v, g_q) = fn112 [] g
noncomputable def fn113 (x : List Int) (g0 : rHp) : zR :=
  zLet (x.getD 0 0) fun n0 =>
  zLet (g0 2 0 3) fun n1 =>
  zLet (zF2 .iushr n0 24) fun n2 =>
  zLet (zF1 .i2b n2) fun n3 =>
  zLet (rUp g0 21 0 n1 n3) fun g1 =>
  zLet (rUp g1 2 0 3 (n1 + 1)) fun g2 =>
  zLet (zF2 .iushr n0 16) fun n4 =>
  zLet (zF1 .i2b n4) fun n5 =>
  zLet (rUp g2 21 0 (n1 + 1) n5) fun g3 =>
  zLet (rUp g3 2 0 3 (n1 + 2)) fun g4 =>
  zLet (zF2 .iushr n0 8) fun n6 =>
  zLet (zF1 .i2b n6) fun n7 =>
  zLet (rUp g4 21 0 (n1 + 2) n7) fun g5 =>
  zLet (rUp g5 2 0 3 (n1 + 3)) fun g6 =>
  zLet (zF2 .iushr n0 0) fun n8 =>
  zLet (zF1 .i2b n8) fun n9 =>
  zLet (rUp g6 21 0 (n1 + 3) n9) fun g7 =>
  zLet (rUp g7 2 0 3 (n1 + 4)) fun g8 =>
  (0, 0, g8)
noncomputable def sn113 : zSpc := fun a g o v g_q => (o, v, g_q) = fn113 [a.getD 0 0] g
noncomputable def dn114 (x : List Int) (g0 : rHp) : zSt :=
  zLet (g0 2 0 6) fun n0 =>
  zLet (g0 2 0 3) fun n1 =>
  if n0 ≥ n1 then
    .inr (0, (-1), g0)
  else
    zLet (g0 21 0 n0) fun n2 =>
    if n2 = 10 then
      zLet (rUp g0 2 0 6 (n0 + 1)) fun g1 =>
      .inl (0, [], g1)
    else
      if n2 ≠ 32 then
        zLet (zF2 .iand n2 255) fun n3 =>
        .inr (0, n3, g0)
      else
        zLet (rUp g0 2 0 6 (n0 + 1)) fun g1 =>
        .inl (0, [], g1)
noncomputable def en114 (g0 : rHp) (s : Nat × List Int × rHp) : zSt :=
  if s.1 = 0 then
    zLet s.2.2 fun g1 =>
    zLet (g0 2 0 3) fun n1 =>
    zLet (g1 2 0 6) fun n2 =>
    if n2 ≥ n1 then
      .inr (0, (-1), g1)
    else
      zLet (g0 21 0 n2) fun n3 =>
      if n3 = 10 then
        zLet (rUp g1 2 0 6 (n2 + 1)) fun g2 =>
        .inl (0, [], g2)
      else
        if n3 ≠ 32 then
          zLet (zF2 .iand n3 255) fun n4 =>
          .inr (0, n4, g1)
        else
          zLet (rUp g1 2 0 6 (n2 + 1)) fun g2 =>
          .inl (0, [], g2)
  else .inr (0, 0, g0)
noncomputable def fn114 (x : List Int) (g : rHp) : zR := zGoo (en114 g) (dn114 x g)
noncomputable def sn114 : zSpc := fun a g o v g_q => (o, v, g_q) = fn114 [] g
noncomputable def pl114 : Nat → List Int → List Int
  | 0, vs => []
  | _, _ => []
noncomputable def jn114 : List Int → rHp → Nat → List Int → rHp → Prop := fun a g i vs g1 => fn114 [] g = zLoop (en114 g) (i, pl114 i vs, g1)
noncomputable def dn115 (x : List Int) (g0 : rHp) : zSt :=
  zLet (g0 2 0 6) fun n0 =>
  zLet (g0 2 0 3) fun n1 =>
  zLet (rUp g0 2 0 9 n0) fun g1 =>
  zLet (g0 21 0 n0) fun n4 =>
  zLet (zF2 .iand n4 31) fun n5 =>
  zLet (rUp g1 2 0 8 n5) fun g2 =>
  zLet (rUp g2 2 0 6 (n0 + 1)) fun g3 =>
  if n0 + 1 ≥ n1 then
    .inl (0, [0], g3)
  else
    zLet (g0 21 0 (n0 + 1)) fun n6 =>
    zLet (fn108 [n6] g3) fun p3 =>
    zLet p3.2.2 fun g4 =>
    zLet (p3.2.1) fun n7 =>
    .inl (0, [n7], g4)
noncomputable def en115 (g0 : rHp) (s : Nat × List Int × rHp) : zSt :=
  if s.1 = 0 then
    zLet s.2.2 fun g1 =>
    zLet (s.2.1.getD 0 0) fun n4 =>
    zLet (g0 2 0 6) fun n0 =>
    zLet (g0 2 0 3) fun n1 =>
    zLet (g1 2 0 6) fun n5 =>
    if n4 ≤ 0 then
      if n5 + -n0 ≤ 12 then
        .inr (0, 1, g1)
      else
        zLet (fn109 [n0] g1) fun p1 =>
        zLet p1.2.2 fun g2 =>
        .inr (0, 0, g2)
    else
      if n5 ≥ n1 then
        if n5 + -n0 ≤ 12 then
          .inr (0, 1, g1)
        else
          zLet (fn109 [n0] g1) fun p1 =>
          zLet p1.2.2 fun g2 =>
          .inr (0, 0, g2)
      else
        zLet (g1 2 0 8) fun n6 =>
        zLet (zF2 .lmul n6 38) fun n7 =>
        zLet (zF2 .ladd n7 n4) fun n8 =>
        zLet (rUp g1 2 0 8 n8) fun g2 =>
        zLet (rUp g2 2 0 6 (n5 + 1)) fun g3 =>
        if n5 + 1 ≥ n1 then
          .inl (0, [0], g3)
        else
          zLet (g0 21 0 (n5 + 1)) fun n9 =>
          zLet (fn108 [n9] g3) fun p3 =>
          zLet p3.2.2 fun g4 =>
          zLet (p3.2.1) fun n10 =>
          .inl (0, [n10], g4)
  else .inr (0, 0, g0)
noncomputable def fn115 (x : List Int) (g : rHp) : zR := zGoo (en115 g) (dn115 x g)
noncomputable def sn115 : zSpc := fun a g o v g_q => (o, v, g_q) = fn115 [] g
noncomputable def pl115 : Nat → List Int → List Int
  | 0, vs => [vs.getD 4 0]
  | _, _ => []
noncomputable def jn115 : List Int → rHp → Nat → List Int → rHp → Prop := fun a g i vs g1 => fn115 [] g = zLoop (en115 g) (i, pl115 i vs, g1)
noncomputable def dn116 (x : List Int) (g0 : rHp) : zSt :=
  zLet (g0 2 0 6) fun n0 =>
  zLet (g0 2 0 3) fun n1 =>
  if n0 ≥ n1 then
    zLet (rUp g0 2 0 10 0) fun g1 =>
    .inl (0, [n0, 0], g1)
  else
    zLet (g0 21 0 n0) fun n3 =>
    if n3 ≠ 45 then
      zLet (rUp g0 2 0 10 0) fun g1 =>
      .inl (0, [n0, 0], g1)
    else
      zLet (rUp g0 2 0 6 (n0 + 1)) fun g1 =>
      zLet (rUp g1 2 0 10 0) fun g2 =>
      .inl (0, [n0 + 1, 1], g2)
noncomputable def en116 (g0 : rHp) (s : Nat × List Int × rHp) : zSt :=
  if s.1 = 0 then
    zLet s.2.2 fun g1 =>
    zLet (s.2.1.getD 0 0) fun n3 =>
    zLet (s.2.1.getD 1 0) fun n4 =>
    zLet (g0 2 0 6) fun n0 =>
    zLet (g0 2 0 3) fun n1 =>
    zLet (g1 2 0 6) fun n5 =>
    if n5 ≥ n1 then
      if n5 = n3 then
        zLet (fn109 [n0] g1) fun p1 =>
        zLet p1.2.2 fun g2 =>
        .inr (0, 0, g2)
      else
        if n5 + -n3 ≤ 7 then
          if n4 = 0 then
            zLet (g1 2 0 10) fun n6 =>
            zLet (rUp g1 2 0 10 n6) fun g2 =>
            .inr (0, 1, g2)
          else
            zLet (g1 2 0 10) fun n6 =>
            zLet (zF1 .lneg n6) fun n7 =>
            zLet (rUp g1 2 0 10 n7) fun g2 =>
            .inr (0, 1, g2)
        else
          zLet (fn109 [n0] g1) fun p1 =>
          zLet p1.2.2 fun g2 =>
          .inr (0, 0, g2)
    else
      zLet (g0 21 0 n5) fun n6 =>
      zLet (fn107 [n6] g1) fun p1 =>
      zLet p1.2.2 fun g2 =>
      if 1 ≤ p1.2.1 then
        zLet (g1 2 0 10) fun n7 =>
        zLet (zF2 .lmul n7 10) fun n8 =>
        zLet (zF2 .ladd n8 (n6 + (-48))) fun n9 =>
        zLet (rUp g2 2 0 10 n9) fun g3 =>
        zLet (rUp g3 2 0 6 (n5 + 1)) fun g4 =>
        .inl (0, [n3, n4], g4)
      else
        if n5 = n3 then
          zLet (fn109 [n0] g2) fun p2 =>
          zLet p2.2.2 fun g3 =>
          .inr (0, 0, g3)
        else
          if n5 + -n3 ≤ 7 then
            if n4 = 0 then
              zLet (g1 2 0 10) fun n7 =>
              zLet (rUp g2 2 0 10 n7) fun g3 =>
              .inr (0, 1, g3)
            else
              zLet (g1 2 0 10) fun n7 =>
              zLet (zF1 .lneg n7) fun n8 =>
              zLet (rUp g2 2 0 10 n8) fun g3 =>
              .inr (0, 1, g3)
          else
            zLet (fn109 [n0] g2) fun p2 =>
            zLet p2.2.2 fun g3 =>
            .inr (0, 0, g3)
  else .inr (0, 0, g0)
noncomputable def fn116 (x : List Int) (g : rHp) : zR := zGoo (en116 g) (dn116 x g)
noncomputable def sn116 : zSpc := fun a g o v g_q => (o, v, g_q) = fn116 [] g
noncomputable def pl116 : Nat → List Int → List Int
  | 0, vs => [vs.getD 3 0, vs.getD 4 0]
  | _, _ => []
noncomputable def jn116 : List Int → rHp → Nat → List Int → rHp → Prop := fun a g i vs g1 => fn116 [] g = zLoop (en116 g) (i, pl116 i vs, g1)
noncomputable def fn117 (x : List Int) (g0 : rHp) : zR :=
  zLet (x.getD 0 0) fun n0 =>
  zLet (g0 2 0 5) fun n1 =>
  zLet (zF2 .ishr n1 n0) fun n2 =>
  zLet (zF2 .iand n2 1) fun n3 =>
  if n3 ≠ 1 then
    (0, 0, g0)
  else
    (0, 1, g0)
noncomputable def sn117 : zSpc := fun a g o v g_q => (o, v, g_q) = fn117 [a.getD 0 0] g
noncomputable def fn118 (x : List Int) (g0 : rHp) : zR :=
  zLet (x.getD 0 0) fun n0 =>
  zLet (g0 2 0 5) fun n1 =>
  zLet (zF2 .ishr n1 n0) fun n2 =>
  zLet (zF2 .iand n2 1) fun n3 =>
  if n3 ≠ 1 then
    (0, 0, g0)
  else
    (0, 1, g0)
noncomputable def sn118 : zSpc := fun a g o v g_q => (o, v, g_q) = fn118 [a.getD 0 0] g
noncomputable def dn119 (x : List Int) (g0 : rHp) : zSt :=
  zLet (x.getD 0 0) fun n0 =>
  .inl (0, [n0, 0], g0)
noncomputable def en119 (g0 : rHp) (s : Nat × List Int × rHp) : zSt :=
  if s.1 = 0 then
    zLet s.2.2 fun g1 =>
    zLet (s.2.1.getD 0 0) fun n0 =>
    zLet (s.2.1.getD 1 0) fun n2 =>
    zLet (g0 2 0 13) fun n1 =>
    if n2 ≥ n1 then
      .inr (0, (-1), g1)
    else
      zLet (g0 22 0 n2) fun n3 =>
      if n3 ≠ n0 then
        .inl (0, [n0, n2 + 1], g1)
      else
        .inr (0, n2, g1)
  else .inr (0, 0, g0)
noncomputable def fn119 (x : List Int) (g : rHp) : zR := zGoo (en119 g) (dn119 x g)
noncomputable def sn119 : zSpc := fun a g o v g_q => (o, v, g_q) = fn119 [a.getD 0 0] g
noncomputable def pl119 : Nat → List Int → List Int
  | 0, vs => [vs.getD 0 0, vs.getD 2 0]
  | _, _ => []
noncomputable def jn119 : List Int → rHp → Nat → List Int → rHp → Prop := fun a g i vs g1 => fn119 [a.getD 0 0] g = zLoop (en119 g) (i, pl119 i vs, g1)
noncomputable def fn120 (x : List Int) (g0 : rHp) : zR :=
  zLet (x.getD 0 0) fun n0 =>
  zLet (g0 2 0 13) fun n1 =>
  zLet (fn119 [n0] g0) fun p0 =>
  zLet p0.2.2 fun g1 =>
  zLet (p0.2.1) fun n2 =>
  if n2 < 0 then
    if n1 < 8 then
      zLet (rUp g1 22 0 n1 n0) fun g2 =>
      zLet (rUp g2 23 0 n1 1) fun g3 =>
      zLet (rUp g3 2 0 13 (n1 + 1)) fun g4 =>
      (0, n1, g4)
    else
      (0, (-1), g1)
  else
    zLet (g0 23 0 n2) fun n3 =>
    zLet (zF2 .iadd n3 1) fun n4 =>
    zLet (rUp g1 23 0 n2 n4) fun g2 =>
    (0, n2, g2)
noncomputable def sn120 : zSpc := fun a g o v g_q => (o, v, g_q) = fn120 [a.getD 0 0] g
noncomputable def fn121 (x : List Int) (g0 : rHp) : zR :=
  zLet (x.getD 0 0) fun n0 =>
  zLet (g0 2 0 9) fun n1 =>
  zLet (g0 2 0 16) fun n2 =>
  if n2 ≥ 32 then
    (0, 0, g0)
  else
    zLet (rUp g0 24 0 n2 n1) fun g1 =>
    zLet (rUp g1 25 0 n2 n0) fun g2 =>
    zLet (rUp g2 2 0 16 (n2 + 1)) fun g3 =>
    (0, 0, g3)
noncomputable def sn121 : zSpc := fun a g o v g_q => (o, v, g_q) = fn121 [a.getD 0 0] g
noncomputable def fn122 (x : List Int) (g0 : rHp) : zR :=
  zLet (x.getD 0 0) fun n0 =>
  if n0 ≠ 7109364 then
    if n0 ≠ 28247 then
      if n0 ≠ 19128 then
        if n0 ≠ 18834 then
          (0, 0, g0)
        else
          (0, 4, g0)
      else
        (0, 3, g0)
    else
      (0, 2, g0)
  else
    (0, 1, g0)
noncomputable def sn122 : zSpc := fun a g o v g_q => (o, v, g_q) = fn122 [a.getD 0 0] g
noncomputable def fn123 (x : List Int) (g0 : rHp) : zR :=
  zLet (g0 1 0 7) fun n0 =>
  zLet (g0 1 0 9) fun n1 =>
  zLet (g0 1 0 10) fun n2 =>
  zLet (rUp g0 1 0 11 n0) fun g1 =>
  zLet (rUp g1 1 0 12 n1) fun g2 =>
  zLet (rUp g2 1 0 13 n2) fun g3 =>
  (0, 0, g3)
noncomputable def sn123 : zSpc := fun a g o v g_q => (o, v, g_q) = fn123 [] g
noncomputable def fn124 (x : List Int) (g0 : rHp) : zR :=
  zLet (g0 1 0 9) fun n0 =>
  zLet (g0 1 0 10) fun n1 =>
  zLet (g0 1 0 12) fun n2 =>
  zLet (g0 1 0 13) fun n3 =>
  if n0 ≠ n2 then
    (0, 1, g0)
  else
    if n1 = n3 then
      (0, 0, g0)
    else
      (0, 1, g0)
noncomputable def sn124 : zSpc := fun a g o v g_q => (o, v, g_q) = fn124 [] g
noncomputable def dn125 (x : List Int) (g0 : rHp) : zSt :=
  zLet (x.getD 0 0) fun n0 =>
  zLet (x.getD 1 0) fun n1 =>
  .inl (0, [n0, n1, 0], g0)
noncomputable def en125 (g0 : rHp) (s : Nat × List Int × rHp) : zSt :=
  if s.1 = 0 then
    zLet s.2.2 fun g1 =>
    zLet (s.2.1.getD 0 0) fun n0 =>
    zLet (s.2.1.getD 1 0) fun n1 =>
    zLet (s.2.1.getD 2 0) fun n3 =>
    zLet (g0 1 0 7) fun n2 =>
    if n3 ≥ n2 then
      .inr (0, (-1), g1)
    else
      zLet (g0 16 0 n3) fun n4 =>
      if n4 ≠ n0 then
        .inl (0, [n0, n1, n3 + 1], g1)
      else
        zLet (g0 17 0 n3) fun n5 =>
        if n5 ≠ n1 then
          .inl (0, [n0, n1, n3 + 1], g1)
        else
          .inr (0, n3, g1)
  else .inr (0, 0, g0)
noncomputable def fn125 (x : List Int) (g : rHp) : zR := zGoo (en125 g) (dn125 x g)
noncomputable def sn125 : zSpc := fun a g o v g_q => (o, v, g_q) = fn125 [a.getD 0 0, a.getD 1 0] g
noncomputable def pl125 : Nat → List Int → List Int
  | 0, vs => [vs.getD 0 0, vs.getD 1 0, vs.getD 3 0]
  | _, _ => []
noncomputable def jn125 : List Int → rHp → Nat → List Int → rHp → Prop := fun a g i vs g1 => fn125 [a.getD 0 0, a.getD 1 0] g = zLoop (en125 g) (i, pl125 i vs, g1)
noncomputable def fn126 (x : List Int) (g0 : rHp) : zR :=
  zLet (x.getD 0 0) fun n0 =>
  zLet (x.getD 1 0) fun n1 =>
  zLet (g0 1 0 7) fun n2 =>
  if n2 < 20 then
    zLet (rUp g0 16 0 n2 n0) fun g1 =>
    zLet (rUp g1 17 0 n2 n1) fun g2 =>
    zLet (rUp g2 1 0 7 (n2 + 1)) fun g3 =>
    (0, n2, g3)
  else
    (0, (-1), g0)
noncomputable def sn126 : zSpc := fun a g o v g_q => (o, v, g_q) = fn126 [a.getD 0 0, a.getD 1 0] g
noncomputable def dn127 (x : List Int) (g0 : rHp) : zSt :=
  zLet (x.getD 0 0) fun n0 =>
  zLet (x.getD 1 0) fun n1 =>
  .inl (0, [n0, n1, 0], g0)
noncomputable def en127 (g0 : rHp) (s : Nat × List Int × rHp) : zSt :=
  if s.1 = 0 then
    zLet s.2.2 fun g1 =>
    zLet (s.2.1.getD 0 0) fun n0 =>
    zLet (s.2.1.getD 1 0) fun n1 =>
    zLet (s.2.1.getD 2 0) fun n2 =>
    if n2 ≥ 4 then
      .inr (0, 1, g1)
    else
      zLet (g0 20 0 (n2 + 4 * n0)) fun n3 =>
      zLet (g0 46 n1 n2) fun n4 =>
      if n3 = n4 then
        .inl (0, [n0, n1, n2 + 1], g1)
      else
        .inr (0, 0, g1)
  else .inr (0, 0, g0)
noncomputable def fn127 (x : List Int) (g : rHp) : zR := zGoo (en127 g) (dn127 x g)
noncomputable def sn127 : zSpc := fun a g o v g_q => (o, v, g_q) = fn127 [a.getD 0 0, a.getD 1 0] g
noncomputable def pl127 : Nat → List Int → List Int
  | 0, vs => [vs.getD 0 0, vs.getD 1 0, vs.getD 2 0]
  | _, _ => []
noncomputable def jn127 : List Int → rHp → Nat → List Int → rHp → Prop := fun a g i vs g1 => fn127 [a.getD 0 0, a.getD 1 0] g = zLoop (en127 g) (i, pl127 i vs, g1)
noncomputable def dn128 (x : List Int) (g0 : rHp) : zSt :=
  zLet (x.getD 0 0) fun n0 =>
  .inl (0, [n0, 0], g0)
noncomputable def en128 (g0 : rHp) (s : Nat × List Int × rHp) : zSt :=
  if s.1 = 0 then
    zLet s.2.2 fun g1 =>
    zLet (s.2.1.getD 0 0) fun n0 =>
    zLet (s.2.1.getD 1 0) fun n3 =>
    zLet (g0 1 0 9) fun n1 =>
    zLet (g0 10 n0 8) fun n2 =>
    if n3 ≥ n1 then
      .inr (0, (-1), g1)
    else
      zLet (g0 19 0 n3) fun n4 =>
      if n4 ≠ n2 then
        .inl (0, [n0, n3 + 1], g1)
      else
        zLet (fn127 [n3, n0] g1) fun p1 =>
        zLet p1.2.2 fun g2 =>
        if 1 ≤ p1.2.1 then
          .inr (0, n3, g2)
        else
          .inl (0, [n0, n3 + 1], g2)
  else .inr (0, 0, g0)
noncomputable def fn128 (x : List Int) (g : rHp) : zR := zGoo (en128 g) (dn128 x g)
noncomputable def sn128 : zSpc := fun a g o v g_q => (o, v, g_q) = fn128 [a.getD 0 0] g
noncomputable def pl128 : Nat → List Int → List Int
  | 0, vs => [vs.getD 0 0, vs.getD 3 0]
  | _, _ => []
noncomputable def jn128 : List Int → rHp → Nat → List Int → rHp → Prop := fun a g i vs g1 => fn128 [a.getD 0 0] g = zLoop (en128 g) (i, pl128 i vs, g1)
noncomputable def fn129 (x : List Int) (g0 : rHp) : zR :=
  zLet (x.getD 0 0) fun n0 =>
  zLet (g0 10 n0 8) fun n1 =>
  zLet (g0 1 0 9) fun n2 =>
  if n2 < 400 then
    zLet (rUp g0 19 0 n2 n1) fun g1 =>
    zLet (zCpy g1 46 n0 0 20 0 (4 * n2) 4) fun g2 =>
    zLet (rUp g2 1 0 9 (n2 + 1)) fun g3 =>
    (0, 1, g3)
  else
    (0, 0, g0)
noncomputable def sn129 : zSpc := fun a g o v g_q => (o, v, g_q) = fn129 [a.getD 0 0] g
noncomputable def fn130 (x : List Int) (g0 : rHp) : zR :=
  zLet (x.getD 0 0) fun n0 =>
  zLet (g0 1 0 9) fun n1 =>
  if n1 + -n0 + (-1) ≥ 0 then
    zLet (zCpy g0 19 0 (n0 + 1) 19 0 n0 (n1 + -n0 + (-1))) fun g1 =>
    zLet (zCpy g1 20 0 (4 * n0 + 4) 20 0 (4 * n0) (4 * n1 + (-4) * n0 + (-4))) fun g2 =>
    zLet (rUp g2 1 0 9 (n1 + (-1))) fun g3 =>
    (0, 0, g3)
  else
    (0, 0, g0)
noncomputable def sn130 : zSpc := fun a g o v g_q => (o, v, g_q) = fn130 [a.getD 0 0] g
noncomputable def fn131 (x : List Int) (g0 : rHp) : zR :=
  zLet (x.getD 0 0) fun n0 =>
  zLet (g0 40 0 n0) fun n1 =>
  (0, n1, g0)
noncomputable def sn131 : zSpc := fun a g o v g_q => (o, v, g_q) = fn131 [a.getD 0 0] g
noncomputable def fn132 (x : List Int) (g0 : rHp) : zR :=
  zLet (x.getD 0 0) fun n0 =>
  zLet (x.getD 1 0) fun n1 =>
  (0, n1 + 9 * n0 + 1, g0)
noncomputable def sn132 : zSpc := fun a g o v g_q => (o, v, g_q) = fn132 [a.getD 0 0, a.getD 1 0] g
noncomputable def fn133 (x : List Int) (g0 : rHp) : zR :=
  zLet (g0 1 0 10) fun n0 =>
  zLet (g0 40 0 n0) fun n1 =>
  zLet (g0 2 0 7) fun n3 =>
  zLet (g0 10 (9 * n1) 5) fun n7 =>
  zLet (g0 10 (9 * n1) 7) fun n8 =>
  zLet (g0 10 (9 * n1) 6) fun n9 =>
  zLet (fn125 [n9, n7] g0) fun p0 =>
  zLet p0.2.2 fun g1 =>
  zLet (p0.2.1) fun n10 =>
  zLet (rUp g1 10 (9 * n1) 8 n10) fun g2 =>
  if n10 ≥ 0 then
    (0, 1, g2)
  else
    if n3 ≠ 0 then
      if n3 = 1 then
        (0, 1, g2)
      else
        zLet (fn109 [n8] g2) fun p2 =>
        zLet p2.2.2 fun g3 =>
        (0, 0, g3)
    else
      zLet (fn126 [n9, n7] g2) fun p2 =>
      zLet p2.2.2 fun g3 =>
      zLet (p2.2.1) fun n11 =>
      zLet (rUp g3 10 (9 * n1) 8 n11) fun g4 =>
      if n11 ≥ 0 then
        (0, 1, g4)
      else
        zLet (fn109 [n8] g4) fun p4 =>
        zLet p4.2.2 fun g5 =>
        (0, 0, g5)
noncomputable def sn133 : zSpc := fun a g o v g_q => (o, v, g_q) = fn133 [] g
noncomputable def fn134 (x : List Int) (g0 : rHp) : zR :=
  zLet (g0 1 0 10) fun n0 =>
  zLet (g0 40 0 n0) fun n1 =>
  zLet (g0 9 n1 2) fun n2 =>
  zLet (g0 2 0 7) fun n3 =>
  zLet (g0 10 (n2 + 9 * n1 + 1) 5) fun n9 =>
  zLet (g0 10 (n2 + 9 * n1 + 1) 7) fun n10 =>
  zLet (g0 10 (n2 + 9 * n1 + 1) 6) fun n11 =>
  zLet (fn125 [n11, n9] g0) fun p0 =>
  zLet p0.2.2 fun g1 =>
  zLet (p0.2.1) fun n12 =>
  zLet (rUp g1 10 (n2 + 9 * n1 + 1) 8 n12) fun g2 =>
  if n12 ≥ 0 then
    (0, 1, g2)
  else
    if n3 ≠ 0 then
      if n3 = 1 then
        (0, 1, g2)
      else
        zLet (fn109 [n10] g2) fun p2 =>
        zLet p2.2.2 fun g3 =>
        (0, 0, g3)
    else
      zLet (fn126 [n11, n9] g2) fun p2 =>
      zLet p2.2.2 fun g3 =>
      zLet (p2.2.1) fun n13 =>
      zLet (rUp g3 10 (n2 + 9 * n1 + 1) 8 n13) fun g4 =>
      if n13 ≥ 0 then
        (0, 1, g4)
      else
        zLet (fn109 [n10] g4) fun p4 =>
        zLet p4.2.2 fun g5 =>
        (0, 0, g5)
noncomputable def sn134 : zSpc := fun a g o v g_q => (o, v, g_q) = fn134 [] g
noncomputable def fn135 (x : List Int) (g0 : rHp) : zR :=
  zLet (x.getD 0 0) fun n0 =>
  zLet (x.getD 1 0) fun n1 =>
  zLet (x.getD 2 0) fun n2 =>
  zLet (fn92 [n1] g0) fun p0 =>
  zLet p0.2.2 fun g1 =>
  zLet (p0.2.1) fun n8 =>
  zLet (fn104 [n0, 0, n2, 0, n8 + 1099511627776] g1) fun p1 =>
  zLet p1.2.2 fun g2 =>
  if n8 ≥ 0 then
    (0, 1, g2)
  else
    zLet (fn109 [n2] g2) fun p2 =>
    zLet p2.2.2 fun g3 =>
    (0, 0, g3)
noncomputable def sn135 : zSpc := fun a g o v g_q => (o, v, g_q) = fn135 [a.getD 0 0, a.getD 1 0, a.getD 2 0] g
noncomputable def fn136 (x : List Int) (g0 : rHp) : zR :=
  zLet (x.getD 0 0) fun n0 =>
  zLet (fn114 [] g0) fun p0 =>
  zLet p0.2.2 fun g1 =>
  if 0 ≤ p0.2.1 then
    zLet (p0.2.1) fun n7 =>
    zLet (g1 2 0 6) fun n8 =>
    zLet (fn105 [n7] g1) fun p1 =>
    zLet p1.2.2 fun g2 =>
    if 1 ≤ p1.2.1 then
      zLet (fn115 [] g2) fun p2 =>
      zLet p2.2.2 fun g3 =>
      if 1 ≤ p2.2.1 then
        zLet (g3 2 0 8) fun n10 =>
        zLet (fn135 [n0, n10, n8] g3) fun p3 =>
        zLet p3.2.2 fun g4 =>
        if 1 ≤ p3.2.1 then
          (0, 1, g4)
        else
          (0, 0, g4)
      else
        (0, 0, g3)
    else
      zLet (fn107 [n7] g2) fun p2 =>
      zLet p2.2.2 fun g3 =>
      if 1 ≤ p2.2.1 then
        zLet (fn116 [] g3) fun p3 =>
        zLet p3.2.2 fun g4 =>
        if 1 ≤ p3.2.1 then
          zLet (g4 2 0 10) fun n10 =>
          zLet (fn104 [n0, 0, n8, 0, n10] g4) fun p4 =>
          zLet p4.2.2 fun g5 =>
          (0, 1, g5)
        else
          (0, 0, g4)
      else
        if n7 = 45 then
          zLet (fn116 [] g3) fun p3 =>
          zLet p3.2.2 fun g4 =>
          if 1 ≤ p3.2.1 then
            zLet (g4 2 0 10) fun n10 =>
            zLet (fn104 [n0, 0, n8, 0, n10] g4) fun p4 =>
            zLet p4.2.2 fun g5 =>
            (0, 1, g5)
          else
            (0, 0, g4)
        else
          zLet (fn109 [n8] g3) fun p3 =>
          zLet p3.2.2 fun g4 =>
          (0, 0, g4)
  else
    zLet (g1 2 0 6) fun n7 =>
    zLet (fn105 [(-1)] g1) fun p1 =>
    zLet p1.2.2 fun g2 =>
    zLet (fn107 [(-1)] g2) fun p2 =>
    zLet p2.2.2 fun g3 =>
    zLet (fn109 [n7] g3) fun p3 =>
    zLet p3.2.2 fun g4 =>
    (0, 0, g4)
noncomputable def sn136 : zSpc := fun a g o v g_q => (o, v, g_q) = fn136 [a.getD 0 0] g
noncomputable def fn137 (x : List Int) (g0 : rHp) : zR :=
  zLet (x.getD 0 0) fun n0 =>
  zLet (g0 2 0 5) fun n5 =>
  zLet (g0 2 0 9) fun n6 =>
  zLet (g0 10 n0 4) fun n9 =>
  zLet (g0 2 0 8) fun n10 =>
  zLet (fn120 [n10] g0) fun p0 =>
  zLet p0.2.2 fun g1 =>
  zLet (p0.2.1) fun n11 =>
  if n11 ≥ 0 then
    if n9 = 0 then
      zLet (fn104 [n0, 1, n6, n11, 0] g1) fun p1 =>
      zLet p1.2.2 fun g2 =>
      (0, 1, g2)
    else
      zLet (fn117 [n11] g1) fun p1 =>
      zLet p1.2.2 fun g2 =>
      if 1 ≤ p1.2.1 then
        zLet (fn104 [n0, 1, n6, n11, 0] g2) fun p2 =>
        zLet p2.2.2 fun g3 =>
        (0, 1, g3)
      else
        if n9 ≠ 1 then
          zLet (fn104 [n0, 3, n6, n11, 0] g2) fun p2 =>
          zLet p2.2.2 fun g3 =>
          zLet (fn121 [n11] g3) fun p3 =>
          zLet p3.2.2 fun g4 =>
          (0, 1, g4)
        else
          zLet (fn104 [n0, 2, n6, n11, 0] g2) fun p2 =>
          zLet p2.2.2 fun g3 =>
          zLet (zF2 .ishl 1 n11) fun n14 =>
          zLet (zF2 .ior n5 n14) fun n15 =>
          zLet (rUp g3 2 0 5 n15) fun g4 =>
          (0, 1, g4)
  else
    zLet (fn109 [n6] g1) fun p1 =>
    zLet p1.2.2 fun g2 =>
    (0, 0, g2)
noncomputable def sn137 : zSpc := fun a g o v g_q => (o, v, g_q) = fn137 [a.getD 0 0] g
noncomputable def fn138 (x : List Int) (g0 : rHp) : zR :=
  zLet (x.getD 0 0) fun n0 =>
  zLet (x.getD 1 0) fun n1 =>
  zLet (x.getD 2 0) fun n2 =>
  zLet (fn119 [n1] g0) fun p0 =>
  zLet p0.2.2 fun g1 =>
  zLet (p0.2.1) fun n9 =>
  if n9 < 0 then
    zLet (fn109 [n2] g1) fun p1 =>
    zLet p1.2.2 fun g2 =>
    (0, 0, g2)
  else
    zLet (fn117 [n9] g1) fun p1 =>
    zLet p1.2.2 fun g2 =>
    if 1 ≤ p1.2.1 then
      zLet (g0 23 0 n9) fun n10 =>
      zLet (zF2 .iadd n10 1) fun n11 =>
      zLet (rUp g2 23 0 n9 n11) fun g3 =>
      zLet (fn104 [n0, 1, n2, n9, 0] g3) fun p3 =>
      zLet p3.2.2 fun g4 =>
      (0, 1, g4)
    else
      zLet (fn109 [n2] g2) fun p2 =>
      zLet p2.2.2 fun g3 =>
      (0, 0, g3)
noncomputable def sn138 : zSpc := fun a g o v g_q => (o, v, g_q) = fn138 [a.getD 0 0, a.getD 1 0, a.getD 2 0] g
noncomputable def fn139 (x : List Int) (g0 : rHp) : zR :=
  zLet (x.getD 0 0) fun n0 =>
  zLet (fn114 [] g0) fun p0 =>
  zLet p0.2.2 fun g1 =>
  if 0 ≤ p0.2.1 then
    zLet (p0.2.1) fun n9 =>
    zLet (g1 2 0 6) fun n10 =>
    zLet (fn106 [n9] g1) fun p1 =>
    zLet p1.2.2 fun g2 =>
    if 1 ≤ p1.2.1 then
      zLet (fn115 [] g2) fun p2 =>
      zLet p2.2.2 fun g3 =>
      if 1 ≤ p2.2.1 then
        zLet (g3 2 0 8) fun n12 =>
        zLet (fn138 [n0, n12, n10] g3) fun p3 =>
        zLet p3.2.2 fun g4 =>
        if 1 ≤ p3.2.1 then
          (0, 1, g4)
        else
          (0, 0, g4)
      else
        (0, 0, g3)
    else
      zLet (fn136 [n0] g2) fun p2 =>
      zLet p2.2.2 fun g3 =>
      if 1 ≤ p2.2.1 then
        (0, 1, g3)
      else
        (0, 0, g3)
  else
    zLet (fn106 [(-1)] g1) fun p1 =>
    zLet p1.2.2 fun g2 =>
    zLet (fn136 [n0] g2) fun p2 =>
    zLet p2.2.2 fun g3 =>
    (0, 0, g3)
noncomputable def sn139 : zSpc := fun a g o v g_q => (o, v, g_q) = fn139 [a.getD 0 0] g
noncomputable def fn140 (x : List Int) (g0 : rHp) : zR :=
  zLet (g0 1 0 10) fun n0 =>
  zLet (g0 40 0 n0) fun n1 =>
  zLet (g0 2 0 6) fun n3 =>
  zLet (g0 10 (9 * n1) 5) fun n5 =>
  zLet (g0 10 (9 * n1) 12) fun n6 =>
  if n6 = 0 then
    zLet (rUp g0 10 (9 * n1) 13 n5) fun g1 =>
    zLet (fn104 [9 * n1, 4, n3, 0, 0] g1) fun p1 =>
    zLet p1.2.2 fun g2 =>
    zLet (rUp g2 2 0 6 (n3 + 1)) fun g3 =>
    zLet (fn114 [] g3) fun p3 =>
    zLet p3.2.2 fun g4 =>
    if 0 ≤ p3.2.1 then
      zLet (p3.2.1) fun n14 =>
      zLet (g4 2 0 6) fun n15 =>
      zLet (fn105 [n14] g4) fun p4 =>
      zLet p4.2.2 fun g5 =>
      if 1 ≤ p4.2.1 then
        zLet (fn115 [] g5) fun p5 =>
        zLet p5.2.2 fun g6 =>
        if 1 ≤ p5.2.1 then
          zLet (g6 2 0 8) fun n17 =>
          zLet (fn122 [n17] g6) fun p6 =>
          zLet p6.2.2 fun g7 =>
          zLet (p6.2.1) fun n18 =>
          zLet (rUp g7 10 (9 * n1) 12 n18) fun g8 =>
          if n18 ≠ 0 then
            if n18 ≠ 1 then
              zLet (fn114 [] g8) fun p8 =>
              zLet p8.2.2 fun g9 =>
              if 0 ≤ p8.2.1 then
                zLet (p8.2.1) fun n19 =>
                zLet (g9 2 0 6) fun n20 =>
                zLet (fn106 [n19] g9) fun p9 =>
                zLet p9.2.2 fun g10 =>
                if 1 ≤ p9.2.1 then
                  zLet (fn115 [] g10) fun p10 =>
                  zLet p10.2.2 fun g11 =>
                  if 1 ≤ p10.2.1 then
                    zLet (rUp g11 10 (9 * n1) 15 n20) fun g12 =>
                    zLet (g11 2 0 8) fun n22 =>
                    zLet (fn120 [n22] g12) fun p12 =>
                    zLet p12.2.2 fun g13 =>
                    zLet (p12.2.1) fun n23 =>
                    zLet (rUp g13 10 (9 * n1) 14 n23) fun g14 =>
                    if n23 ≥ 0 then
                      (0, 1, g14)
                    else
                      zLet (fn109 [n20] g14) fun p14 =>
                      zLet p14.2.2 fun g15 =>
                      (0, 0, g15)
                  else
                    (0, 0, g11)
                else
                  zLet (fn109 [n20] g10) fun p10 =>
                  zLet p10.2.2 fun g11 =>
                  (0, 0, g11)
              else
                zLet (g9 2 0 6) fun n19 =>
                zLet (fn106 [(-1)] g9) fun p9 =>
                zLet p9.2.2 fun g10 =>
                zLet (fn109 [n19] g10) fun p10 =>
                zLet p10.2.2 fun g11 =>
                (0, 0, g11)
            else
              (0, 1, g8)
          else
            zLet (fn109 [n15] g8) fun p8 =>
            zLet p8.2.2 fun g9 =>
            (0, 0, g9)
        else
          (0, 0, g6)
      else
        zLet (fn109 [n15] g5) fun p5 =>
        zLet p5.2.2 fun g6 =>
        (0, 0, g6)
    else
      zLet (g4 2 0 6) fun n14 =>
      zLet (fn105 [(-1)] g4) fun p4 =>
      zLet p4.2.2 fun g5 =>
      zLet (fn109 [n14] g5) fun p5 =>
      zLet p5.2.2 fun g6 =>
      (0, 0, g6)
  else
    zLet (fn109 [n3] g0) fun p0 =>
    zLet p0.2.2 fun g1 =>
    (0, 0, g1)
noncomputable def sn140 : zSpc := fun a g o v g_q => (o, v, g_q) = fn140 [] g
noncomputable def fn141 (x : List Int) (g0 : rHp) : zR :=
  zLet (g0 1 0 10) fun n0 =>
  zLet (g0 40 0 n0) fun n1 =>
  zLet (fn114 [] g0) fun p0 =>
  zLet p0.2.2 fun g1 =>
  if 0 ≤ p0.2.1 then
    zLet (p0.2.1) fun n17 =>
    zLet (fn106 [n17] g1) fun p1 =>
    zLet p1.2.2 fun g2 =>
    if 1 ≤ p1.2.1 then
      zLet (fn115 [] g2) fun p2 =>
      zLet p2.2.2 fun g3 =>
      if 1 ≤ p2.2.1 then
        zLet (fn137 [9 * n1] g3) fun p3 =>
        zLet p3.2.2 fun g4 =>
        if 1 ≤ p3.2.1 then
          (0, 1, g4)
        else
          (0, 0, g4)
      else
        (0, 0, g3)
    else
      if n17 ≠ 35 then
        zLet (fn136 [9 * n1] g2) fun p2 =>
        zLet p2.2.2 fun g3 =>
        if 1 ≤ p2.2.1 then
          (0, 1, g3)
        else
          (0, 0, g3)
      else
        zLet (fn140 [] g2) fun p2 =>
        zLet p2.2.2 fun g3 =>
        if 1 ≤ p2.2.1 then
          (0, 1, g3)
        else
          (0, 0, g3)
  else
    zLet (fn106 [(-1)] g1) fun p1 =>
    zLet p1.2.2 fun g2 =>
    zLet (fn136 [9 * n1] g2) fun p2 =>
    zLet p2.2.2 fun g3 =>
    (0, 0, g3)
noncomputable def sn141 : zSpc := fun a g o v g_q => (o, v, g_q) = fn141 [] g
noncomputable def fn142 (x : List Int) (g0 : rHp) : zR :=
  zLet (g0 1 0 10) fun n0 =>
  zLet (g0 40 0 n0) fun n1 =>
  zLet (g0 9 n1 2) fun n2 =>
  zLet (fn114 [] g0) fun p0 =>
  zLet p0.2.2 fun g1 =>
  if 0 ≤ p0.2.1 then
    zLet (p0.2.1) fun n15 =>
    zLet (g1 2 0 6) fun n16 =>
    zLet (fn106 [n15] g1) fun p1 =>
    zLet p1.2.2 fun g2 =>
    if 1 ≤ p1.2.1 then
      zLet (fn115 [] g2) fun p2 =>
      zLet p2.2.2 fun g3 =>
      if 1 ≤ p2.2.1 then
        zLet (fn137 [n2 + 9 * n1 + 1] g3) fun p3 =>
        zLet p3.2.2 fun g4 =>
        if 1 ≤ p3.2.1 then
          (0, 1, g4)
        else
          (0, 0, g4)
      else
        (0, 0, g3)
    else
      if n15 ≠ 35 then
        if n15 ≠ 95 then
          zLet (fn136 [n2 + 9 * n1 + 1] g2) fun p2 =>
          zLet p2.2.2 fun g3 =>
          if 1 ≤ p2.2.1 then
            (0, 1, g3)
          else
            (0, 0, g3)
        else
          zLet (fn104 [n2 + 9 * n1 + 1, 3, n16, 0, 0] g2) fun p2 =>
          zLet p2.2.2 fun g3 =>
          zLet (rUp g3 2 0 6 (n16 + 1)) fun g4 =>
          (0, 1, g4)
      else
        zLet (fn136 [n2 + 9 * n1 + 1] g2) fun p2 =>
        zLet p2.2.2 fun g3 =>
        if 1 ≤ p2.2.1 then
          (0, 1, g3)
        else
          (0, 0, g3)
  else
    zLet (fn106 [(-1)] g1) fun p1 =>
    zLet p1.2.2 fun g2 =>
    zLet (fn136 [n2 + 9 * n1 + 1] g2) fun p2 =>
    zLet p2.2.2 fun g3 =>
    (0, 0, g3)
noncomputable def sn142 : zSpc := fun a g o v g_q => (o, v, g_q) = fn142 [] g
noncomputable def fn143 (x : List Int) (g0 : rHp) : zR :=
  zLet (x.getD 0 0) fun n0 =>
  zLet (x.getD 1 0) fun n1 =>
  zLet (x.getD 2 0) fun n2 =>
  zLet (g0 43 n0 n1) fun n3 =>
  if n3 ≠ 1 then
    if n3 = 0 then
      (0, 1, g0)
    else
      (0, 0, g0)
  else
    zLet (g0 44 n0 n1) fun n4 =>
    zLet (zF2 .ishr n2 n4) fun n5 =>
    zLet (zF2 .iand n5 1) fun n6 =>
    if n6 ≠ 1 then
      (0, 0, g0)
    else
      (0, 1, g0)
noncomputable def sn143 : zSpc := fun a g o v g_q => (o, v, g_q) = fn143 [a.getD 0 0, a.getD 1 0, a.getD 2 0] g
noncomputable def dn144 (x : List Int) (g0 : rHp) : zSt :=
  zLet (g0 2 0 9) fun n14 =>
  zLet (g0 2 0 8) fun n22 =>
  zLet (fn102 [n22, n14] g0) fun p0 =>
  zLet p0.2.2 fun g1 =>
  zLet (fn114 [] g1) fun p1 =>
  zLet p1.2.2 fun g2 =>
  if 0 ≤ p1.2.1 then
    zLet (p1.2.1) fun n23 =>
    zLet (g2 2 0 6) fun n24 =>
    if n23 = 40 then
      zLet (rUp g2 2 0 6 (n24 + 1)) fun g3 =>
      .inl (0, [0], g3)
    else
      zLet (fn109 [n24] g2) fun p2 =>
      zLet p2.2.2 fun g3 =>
      .inr (0, 0, g3)
  else
    zLet (g2 2 0 6) fun n23 =>
    zLet (fn109 [n23] g2) fun p2 =>
    zLet p2.2.2 fun g3 =>
    .inr (0, 0, g3)
noncomputable def en144 (g0 : rHp) (s : Nat × List Int × rHp) : zSt :=
  if s.1 = 0 then
    zLet s.2.2 fun g1 =>
    zLet (s.2.1.getD 0 0) fun n22 =>
    zLet (g0 1 0 10) fun n0 =>
    zLet (g0 40 0 n0) fun n1 =>
    zLet (g0 2 0 5) fun n13 =>
    zLet (g1 10 (9 * n1) 9) fun n34 =>
    if n22 ≥ 4 then
      zLet (fn114 [] g1) fun p1 =>
      zLet p1.2.2 fun g2 =>
      if 0 ≤ p1.2.1 then
        zLet (g2 2 0 6) fun n38 =>
        zLet (fn109 [n38] g2) fun p2 =>
        zLet p2.2.2 fun g3 =>
        .inr (0, 0, g3)
      else
        zLet (g2 2 0 6) fun n37 =>
        zLet (fn109 [n37] g2) fun p2 =>
        zLet p2.2.2 fun g3 =>
        .inr (0, 0, g3)
    else
      zLet (fn141 [] g1) fun p1 =>
      zLet p1.2.2 fun g2 =>
      if 1 ≤ p1.2.1 then
        if n34 ≥ 0 then
          zLet (fn114 [] g2) fun p2 =>
          zLet p2.2.2 fun g3 =>
          if 0 ≤ p2.2.1 then
            zLet (p2.2.1) fun n48 =>
            zLet (g3 2 0 6) fun n49 =>
            if n48 = 41 then
              zLet (rUp g3 2 0 6 (n49 + 1)) fun g4 =>
              zLet (fn133 [] g4) fun p4 =>
              zLet p4.2.2 fun g5 =>
              if 1 ≤ p4.2.1 then
                .inr (0, 1, g5)
              else
                .inr (0, 0, g5)
            else
              if n48 = 44 then
                zLet (rUp g3 2 0 6 (n49 + 1)) fun g4 =>
                .inl (0, [n22 + 1], g4)
              else
                zLet (fn109 [n49] g3) fun p3 =>
                zLet p3.2.2 fun g4 =>
                .inr (0, 0, g4)
          else
            zLet (g3 2 0 6) fun n48 =>
            zLet (fn109 [n48] g3) fun p3 =>
            zLet p3.2.2 fun g4 =>
            .inr (0, 0, g4)
        else
          zLet (fn143 [9 * n1, n22, n13] g2) fun p2 =>
          zLet p2.2.2 fun g3 =>
          if 1 ≤ p2.2.1 then
            zLet (rUp g3 10 (9 * n1) 9 n22) fun g4 =>
            zLet (fn114 [] g4) fun p4 =>
            zLet p4.2.2 fun g5 =>
            if 0 ≤ p4.2.1 then
              zLet (p4.2.1) fun n48 =>
              zLet (g5 2 0 6) fun n49 =>
              if n48 = 41 then
                zLet (rUp g5 2 0 6 (n49 + 1)) fun g6 =>
                zLet (fn133 [] g6) fun p6 =>
                zLet p6.2.2 fun g7 =>
                if 1 ≤ p6.2.1 then
                  .inr (0, 1, g7)
                else
                  .inr (0, 0, g7)
              else
                if n48 = 44 then
                  zLet (rUp g5 2 0 6 (n49 + 1)) fun g6 =>
                  .inl (0, [n22 + 1], g6)
                else
                  zLet (fn109 [n49] g5) fun p5 =>
                  zLet p5.2.2 fun g6 =>
                  .inr (0, 0, g6)
            else
              zLet (g5 2 0 6) fun n48 =>
              zLet (fn109 [n48] g5) fun p5 =>
              zLet p5.2.2 fun g6 =>
              .inr (0, 0, g6)
          else
            zLet (fn114 [] g3) fun p3 =>
            zLet p3.2.2 fun g4 =>
            if 0 ≤ p3.2.1 then
              zLet (p3.2.1) fun n48 =>
              zLet (g4 2 0 6) fun n49 =>
              if n48 = 41 then
                zLet (rUp g4 2 0 6 (n49 + 1)) fun g5 =>
                zLet (fn133 [] g5) fun p5 =>
                zLet p5.2.2 fun g6 =>
                if 1 ≤ p5.2.1 then
                  .inr (0, 1, g6)
                else
                  .inr (0, 0, g6)
              else
                if n48 = 44 then
                  zLet (rUp g4 2 0 6 (n49 + 1)) fun g5 =>
                  .inl (0, [n22 + 1], g5)
                else
                  zLet (fn109 [n49] g4) fun p4 =>
                  zLet p4.2.2 fun g5 =>
                  .inr (0, 0, g5)
            else
              zLet (g4 2 0 6) fun n48 =>
              zLet (fn109 [n48] g4) fun p4 =>
              zLet p4.2.2 fun g5 =>
              .inr (0, 0, g5)
      else
        .inr (0, 0, g2)
  else .inr (0, 0, g0)
noncomputable def fn144 (x : List Int) (g : rHp) : zR := zGoo (en144 g) (dn144 x g)
noncomputable def sn144 : zSpc := fun a g o v g_q => (o, v, g_q) = fn144 [] g
noncomputable def pl144 : Nat → List Int → List Int
  | 0, vs => [vs.getD 22 0]
  | _, _ => []
noncomputable def jn144 : List Int → rHp → Nat → List Int → rHp → Prop := fun a g i vs g1 => fn144 [] g = zLoop (en144 g) (i, pl144 i vs, g1)
noncomputable def dn145 (x : List Int) (g0 : rHp) : zSt :=
  zLet (x.getD 0 0) fun n0 =>
  zLet (g0 2 0 9) fun n15 =>
  zLet (g0 2 0 8) fun n22 =>
  zLet (fn103 [n0, n22, n15] g0) fun p0 =>
  zLet p0.2.2 fun g1 =>
  zLet (fn114 [] g1) fun p1 =>
  zLet p1.2.2 fun g2 =>
  if 0 ≤ p1.2.1 then
    zLet (p1.2.1) fun n23 =>
    zLet (g2 2 0 6) fun n24 =>
    if n23 = 40 then
      zLet (rUp g2 2 0 6 (n24 + 1)) fun g3 =>
      .inl (0, [0], g3)
    else
      zLet (fn109 [n24] g2) fun p2 =>
      zLet p2.2.2 fun g3 =>
      .inr (0, 0, g3)
  else
    zLet (g2 2 0 6) fun n23 =>
    zLet (fn109 [n23] g2) fun p2 =>
    zLet p2.2.2 fun g3 =>
    .inr (0, 0, g3)
noncomputable def en145 (g0 : rHp) (s : Nat × List Int × rHp) : zSt :=
  if s.1 = 0 then
    zLet s.2.2 fun g1 =>
    zLet (s.2.1.getD 0 0) fun n22 =>
    zLet (g0 1 0 10) fun n1 =>
    zLet (g0 40 0 n1) fun n2 =>
    zLet (g0 9 n2 2) fun n3 =>
    zLet (g0 2 0 5) fun n14 =>
    zLet (g1 10 (n3 + 9 * n2 + 1) 9) fun n31 =>
    if n22 ≥ 4 then
      zLet (fn114 [] g1) fun p1 =>
      zLet p1.2.2 fun g2 =>
      if 0 ≤ p1.2.1 then
        zLet (g2 2 0 6) fun n34 =>
        zLet (fn109 [n34] g2) fun p2 =>
        zLet p2.2.2 fun g3 =>
        .inr (0, 0, g3)
      else
        zLet (g2 2 0 6) fun n33 =>
        zLet (fn109 [n33] g2) fun p2 =>
        zLet p2.2.2 fun g3 =>
        .inr (0, 0, g3)
    else
      zLet (fn142 [] g1) fun p1 =>
      zLet p1.2.2 fun g2 =>
      if 1 ≤ p1.2.1 then
        if n31 ≥ 0 then
          zLet (fn114 [] g2) fun p2 =>
          zLet p2.2.2 fun g3 =>
          if 0 ≤ p2.2.1 then
            zLet (p2.2.1) fun n40 =>
            zLet (g3 2 0 6) fun n41 =>
            if n40 = 41 then
              zLet (rUp g3 2 0 6 (n41 + 1)) fun g4 =>
              zLet (fn134 [] g4) fun p4 =>
              zLet p4.2.2 fun g5 =>
              if 1 ≤ p4.2.1 then
                .inr (0, 1, g5)
              else
                .inr (0, 0, g5)
            else
              if n40 = 44 then
                zLet (rUp g3 2 0 6 (n41 + 1)) fun g4 =>
                .inl (0, [n22 + 1], g4)
              else
                zLet (fn109 [n41] g3) fun p3 =>
                zLet p3.2.2 fun g4 =>
                .inr (0, 0, g4)
          else
            zLet (g3 2 0 6) fun n40 =>
            zLet (fn109 [n40] g3) fun p3 =>
            zLet p3.2.2 fun g4 =>
            .inr (0, 0, g4)
        else
          zLet (fn143 [n3 + 9 * n2 + 1, n22, n14] g2) fun p2 =>
          zLet p2.2.2 fun g3 =>
          if 1 ≤ p2.2.1 then
            zLet (rUp g3 10 (n3 + 9 * n2 + 1) 9 n22) fun g4 =>
            zLet (fn114 [] g4) fun p4 =>
            zLet p4.2.2 fun g5 =>
            if 0 ≤ p4.2.1 then
              zLet (p4.2.1) fun n40 =>
              zLet (g5 2 0 6) fun n41 =>
              if n40 = 41 then
                zLet (rUp g5 2 0 6 (n41 + 1)) fun g6 =>
                zLet (fn134 [] g6) fun p6 =>
                zLet p6.2.2 fun g7 =>
                if 1 ≤ p6.2.1 then
                  .inr (0, 1, g7)
                else
                  .inr (0, 0, g7)
              else
                if n40 = 44 then
                  zLet (rUp g5 2 0 6 (n41 + 1)) fun g6 =>
                  .inl (0, [n22 + 1], g6)
                else
                  zLet (fn109 [n41] g5) fun p5 =>
                  zLet p5.2.2 fun g6 =>
                  .inr (0, 0, g6)
            else
              zLet (g5 2 0 6) fun n40 =>
              zLet (fn109 [n40] g5) fun p5 =>
              zLet p5.2.2 fun g6 =>
              .inr (0, 0, g6)
          else
            zLet (fn114 [] g3) fun p3 =>
            zLet p3.2.2 fun g4 =>
            if 0 ≤ p3.2.1 then
              zLet (p3.2.1) fun n40 =>
              zLet (g4 2 0 6) fun n41 =>
              if n40 = 41 then
                zLet (rUp g4 2 0 6 (n41 + 1)) fun g5 =>
                zLet (fn134 [] g5) fun p5 =>
                zLet p5.2.2 fun g6 =>
                if 1 ≤ p5.2.1 then
                  .inr (0, 1, g6)
                else
                  .inr (0, 0, g6)
              else
                if n40 = 44 then
                  zLet (rUp g4 2 0 6 (n41 + 1)) fun g5 =>
                  .inl (0, [n22 + 1], g5)
                else
                  zLet (fn109 [n41] g4) fun p4 =>
                  zLet p4.2.2 fun g5 =>
                  .inr (0, 0, g5)
            else
              zLet (g4 2 0 6) fun n40 =>
              zLet (fn109 [n40] g4) fun p4 =>
              zLet p4.2.2 fun g5 =>
              .inr (0, 0, g5)
      else
        .inr (0, 0, g2)
  else .inr (0, 0, g0)
noncomputable def fn145 (x : List Int) (g : rHp) : zR := zGoo (en145 g) (dn145 x g)
noncomputable def sn145 : zSpc := fun a g o v g_q => (o, v, g_q) = fn145 [a.getD 0 0] g
noncomputable def pl145 : Nat → List Int → List Int
  | 0, vs => [vs.getD 22 0]
  | _, _ => []
noncomputable def jn145 : List Int → rHp → Nat → List Int → rHp → Prop := fun a g i vs g1 => fn145 [a.getD 0 0] g = zLoop (en145 g) (i, pl145 i vs, g1)
noncomputable def fn146 (x : List Int) (g0 : rHp) : zR :=
  zLet (g0 1 0 10) fun n0 =>
  zLet (g0 40 0 n0) fun n1 =>
  zLet (fn110 [] g0) fun p0 =>
  zLet p0.2.2 fun g1 =>
  zLet (rUp g1 9 n1 2 0) fun g2 =>
  zLet (rUp g2 9 n1 3 0) fun g3 =>
  zLet (fn114 [] g3) fun p3 =>
  zLet p3.2.2 fun g4 =>
  if 0 ≤ p3.2.1 then
    zLet (p3.2.1) fun n23 =>
    zLet (g4 2 0 6) fun n24 =>
    zLet (fn105 [n23] g4) fun p4 =>
    zLet p4.2.2 fun g5 =>
    if 1 ≤ p4.2.1 then
      zLet (fn115 [] g5) fun p5 =>
      zLet p5.2.2 fun g6 =>
      if 1 ≤ p5.2.1 then
        zLet (fn144 [] g6) fun p6 =>
        zLet p6.2.2 fun g7 =>
        if 1 ≤ p6.2.1 then
          (0, 1, g7)
        else
          (0, 0, g7)
      else
        (0, 0, g6)
    else
      zLet (fn109 [n24] g5) fun p5 =>
      zLet p5.2.2 fun g6 =>
      (0, 0, g6)
  else
    zLet (g4 2 0 6) fun n23 =>
    zLet (fn105 [(-1)] g4) fun p4 =>
    zLet p4.2.2 fun g5 =>
    zLet (fn109 [n23] g5) fun p5 =>
    zLet p5.2.2 fun g6 =>
    (0, 0, g6)
noncomputable def sn146 : zSpc := fun a g o v g_q => (o, v, g_q) = fn146 [] g
noncomputable def dn147 (x : List Int) (g0 : rHp) : zSt :=
  zLet (x.getD 0 0) fun n0 =>
  .inl (0, [n0, 0], g0)
noncomputable def en147 (g0 : rHp) (s : Nat × List Int × rHp) : zSt :=
  if s.1 = 0 then
    zLet s.2.2 fun g1 =>
    zLet (s.2.1.getD 0 0) fun n0 =>
    zLet (s.2.1.getD 1 0) fun n3 =>
    zLet (g0 10 n0 5) fun n2 =>
    if n3 ≥ n2 then
      .inr (0, 1, g1)
    else
      zLet (g0 43 n0 n3) fun n4 =>
      if n4 = 0 then
        .inl (0, [n0, n3 + 1], g1)
      else
        zLet (g0 45 n0 n3) fun n5 =>
        zLet (fn109 [n5] g1) fun p1 =>
        zLet p1.2.2 fun g2 =>
        .inr (0, 0, g2)
  else .inr (0, 0, g0)
noncomputable def fn147 (x : List Int) (g : rHp) : zR := zGoo (en147 g) (dn147 x g)
noncomputable def sn147 : zSpc := fun a g o v g_q => (o, v, g_q) = fn147 [a.getD 0 0] g
noncomputable def pl147 : Nat → List Int → List Int
  | 0, vs => [vs.getD 0 0, vs.getD 3 0]
  | _, _ => []
noncomputable def jn147 : List Int → rHp → Nat → List Int → rHp → Prop := fun a g i vs g1 => fn147 [a.getD 0 0] g = zLoop (en147 g) (i, pl147 i vs, g1)
noncomputable def fn148 (x : List Int) (g0 : rHp) : zR :=
  zLet (x.getD 0 0) fun n0 =>
  zLet (fn114 [] g0) fun p0 =>
  zLet p0.2.2 fun g1 =>
  if 0 ≤ p0.2.1 then
    zLet (p0.2.1) fun n5 =>
    zLet (g1 2 0 6) fun n6 =>
    if n5 = 46 then
      zLet (rUp g1 2 0 6 (n6 + 1)) fun g2 =>
      zLet (fn147 [n0] g2) fun p2 =>
      zLet p2.2.2 fun g3 =>
      if 1 ≤ p2.2.1 then
        (0, 1, g3)
      else
        (0, 0, g3)
    else
      zLet (fn109 [n6] g1) fun p1 =>
      zLet p1.2.2 fun g2 =>
      (0, 0, g2)
  else
    zLet (g1 2 0 6) fun n5 =>
    zLet (fn109 [n5] g1) fun p1 =>
    zLet p1.2.2 fun g2 =>
    (0, 0, g2)
noncomputable def sn148 : zSpc := fun a g o v g_q => (o, v, g_q) = fn148 [a.getD 0 0] g
noncomputable def fn149 (x : List Int) (g0 : rHp) : zR :=
  zLet (fn114 [] g0) fun p0 =>
  zLet p0.2.2 fun g1 =>
  if 0 ≤ p0.2.1 then
    zLet (g1 2 0 6) fun n4 =>
    zLet (fn109 [n4] g1) fun p1 =>
    zLet p1.2.2 fun g2 =>
    (0, 0, g2)
  else
    (0, 1, g1)
noncomputable def sn149 : zSpc := fun a g o v g_q => (o, v, g_q) = fn149 [] g
noncomputable def fn150 (x : List Int) (g0 : rHp) : zR :=
  zLet (x.getD 0 0) fun n0 =>
  zLet (g0 10 n0 7) fun n7 =>
  zLet (fn148 [n0] g0) fun p0 =>
  zLet p0.2.2 fun g1 =>
  if 1 ≤ p0.2.1 then
    zLet (fn128 [n0] g1) fun p1 =>
    zLet p1.2.2 fun g2 =>
    zLet (p1.2.1) fun n9 =>
    if n9 ≥ 0 then
      (0, 1, g2)
    else
      zLet (fn129 [n0] g2) fun p2 =>
      zLet p2.2.2 fun g3 =>
      if 1 ≤ p2.2.1 then
        (0, 1, g3)
      else
        zLet (fn109 [n7] g3) fun p3 =>
        zLet p3.2.2 fun g4 =>
        (0, 0, g4)
  else
    (0, 0, g1)
noncomputable def sn150 : zSpc := fun a g o v g_q => (o, v, g_q) = fn150 [a.getD 0 0] g
noncomputable def fn151 (x : List Int) (g0 : rHp) : zR :=
  zLet (x.getD 0 0) fun n0 =>
  zLet (g0 2 0 3) fun n2 =>
  zLet (g0 1 0 10) fun n3 =>
  zLet (g0 10 n0 7) fun n5 =>
  zLet (fn114 [] g0) fun p0 =>
  zLet p0.2.2 fun g1 =>
  if 0 ≤ p0.2.1 then
    zLet (p0.2.1) fun n6 =>
    zLet (g1 2 0 6) fun n7 =>
    if n6 = 58 then
      zLet (rUp g1 2 0 6 (n7 + 1)) fun g2 =>
      if n7 + 1 ≥ n2 then
        zLet (fn109 [n7 + 1] g2) fun p2 =>
        zLet p2.2.2 fun g3 =>
        (0, 0, g3)
      else
        zLet (g0 21 0 (n7 + 1)) fun n8 =>
        if n8 = 45 then
          zLet (rUp g2 2 0 6 (n7 + 2)) fun g3 =>
          if n3 < 60 then
            (0, 1, g3)
          else
            zLet (fn109 [n5] g3) fun p3 =>
            zLet p3.2.2 fun g4 =>
            (0, 0, g4)
        else
          zLet (fn109 [n7 + 1] g2) fun p2 =>
          zLet p2.2.2 fun g3 =>
          (0, 0, g3)
    else
      zLet (fn109 [n7] g1) fun p1 =>
      zLet p1.2.2 fun g2 =>
      (0, 0, g2)
  else
    zLet (g1 2 0 6) fun n6 =>
    zLet (fn109 [n6] g1) fun p1 =>
    zLet p1.2.2 fun g2 =>
    (0, 0, g2)
noncomputable def sn151 : zSpc := fun a g o v g_q => (o, v, g_q) = fn151 [a.getD 0 0] g
noncomputable def dn152 (x : List Int) (g0 : rHp) : zSt :=
  .inl (0, [0], g0)
noncomputable def en152 (g0 : rHp) (s : Nat × List Int × rHp) : zSt :=
  if s.1 = 0 then
    zLet s.2.2 fun g1 =>
    zLet (s.2.1.getD 0 0) fun n2 =>
    zLet (g0 2 0 16) fun n1 =>
    if n2 ≥ n1 then
      .inr (0, 1, g1)
    else
      zLet (g0 25 0 n2) fun n3 =>
      zLet (g0 23 0 n3) fun n4 =>
      if n4 ≤ 1 then
        .inl (0, [n2 + 1], g1)
      else
        zLet (g0 24 0 n2) fun n5 =>
        zLet (fn109 [n5] g1) fun p1 =>
        zLet p1.2.2 fun g2 =>
        .inr (0, 0, g2)
  else .inr (0, 0, g0)
noncomputable def fn152 (x : List Int) (g : rHp) : zR := zGoo (en152 g) (dn152 x g)
noncomputable def sn152 : zSpc := fun a g o v g_q => (o, v, g_q) = fn152 [] g
noncomputable def pl152 : Nat → List Int → List Int
  | 0, vs => [vs.getD 2 0]
  | _, _ => []
noncomputable def jn152 : List Int → rHp → Nat → List Int → rHp → Prop := fun a g i vs g1 => fn152 [] g = zLoop (en152 g) (i, pl152 i vs, g1)
noncomputable def dn153 (x : List Int) (g0 : rHp) : zSt :=
  zLet (x.getD 0 0) fun n0 =>
  .inl (0, [n0, 0], g0)
noncomputable def en153 (g0 : rHp) (s : Nat × List Int × rHp) : zSt :=
  if s.1 = 0 then
    zLet s.2.2 fun g1 =>
    zLet (s.2.1.getD 0 0) fun n0 =>
    zLet (s.2.1.getD 1 0) fun n7 =>
    zLet (g0 10 n0 5) fun n3 =>
    zLet (g0 10 n0 12) fun n4 =>
    zLet (g0 10 n0 14) fun n5 =>
    zLet (g0 10 n0 15) fun n6 =>
    if n7 ≥ n3 then
      .inr (0, 1, g1)
    else
      zLet (g0 43 n0 n7) fun n8 =>
      if n8 ≠ 1 then
        if n8 ≠ 4 then
          .inl (0, [n0, n7 + 1], g1)
        else
          if n4 = 1 then
            .inl (0, [n0, n7 + 1], g1)
          else
            zLet (fn118 [n5] g1) fun p1 =>
            zLet p1.2.2 fun g2 =>
            if 1 ≤ p1.2.1 then
              .inl (0, [n0, n7 + 1], g2)
            else
              zLet (fn109 [n6] g2) fun p2 =>
              zLet p2.2.2 fun g3 =>
              .inr (0, 0, g3)
      else
        zLet (g0 44 n0 n7) fun n9 =>
        zLet (fn117 [n9] g1) fun p1 =>
        zLet p1.2.2 fun g2 =>
        if 1 ≤ p1.2.1 then
          .inl (0, [n0, n7 + 1], g2)
        else
          zLet (g0 45 n0 n7) fun n10 =>
          zLet (fn109 [n10] g2) fun p2 =>
          zLet p2.2.2 fun g3 =>
          .inr (0, 0, g3)
  else .inr (0, 0, g0)
noncomputable def fn153 (x : List Int) (g : rHp) : zR := zGoo (en153 g) (dn153 x g)
noncomputable def sn153 : zSpc := fun a g o v g_q => (o, v, g_q) = fn153 [a.getD 0 0] g
noncomputable def pl153 : Nat → List Int → List Int
  | 0, vs => [vs.getD 0 0, vs.getD 7 0]
  | _, _ => []
noncomputable def jn153 : List Int → rHp → Nat → List Int → rHp → Prop := fun a g i vs g1 => fn153 [a.getD 0 0] g = zLoop (en153 g) (i, pl153 i vs, g1)
noncomputable def fn154 (x : List Int) (g0 : rHp) : zR :=
  zLet (g0 1 0 10) fun n0 =>
  zLet (g0 40 0 n0) fun n1 =>
  zLet (g0 9 n1 2) fun n2 =>
  zLet (g0 2 0 3) fun n4 =>
  zLet (fn114 [] g0) fun p0 =>
  zLet p0.2.2 fun g1 =>
  if 0 ≤ p0.2.1 then
    zLet (p0.2.1) fun n9 =>
    zLet (g1 2 0 6) fun n10 =>
    if n9 = 60 then
      zLet (rUp g1 10 (n2 + 9 * n1 + 1) 4 3) fun g2 =>
      zLet (rUp g2 2 0 6 (n10 + 1)) fun g3 =>
      if n10 + 1 ≥ n4 then
        (0, 1, g3)
      else
        zLet (g0 21 0 (n10 + 1)) fun n11 =>
        if n11 ≠ 62 then
          (0, 1, g3)
        else
          zLet (rUp g3 10 (n2 + 9 * n1 + 1) 4 5) fun g4 =>
          zLet (rUp g4 2 0 6 (n10 + 2)) fun g5 =>
          (0, 1, g5)
    else
      if n9 = 61 then
        zLet (rUp g1 10 (n2 + 9 * n1 + 1) 4 4) fun g2 =>
        zLet (rUp g2 2 0 6 (n10 + 1)) fun g3 =>
        (0, 1, g3)
      else
        zLet (fn109 [n10] g1) fun p1 =>
        zLet p1.2.2 fun g2 =>
        (0, 0, g2)
  else
    zLet (g1 2 0 6) fun n9 =>
    zLet (fn109 [n9] g1) fun p1 =>
    zLet p1.2.2 fun g2 =>
    (0, 0, g2)
noncomputable def sn154 : zSpc := fun a g o v g_q => (o, v, g_q) = fn154 [] g
noncomputable def fn155 (x : List Int) (g0 : rHp) : zR :=
  zLet (x.getD 0 0) fun n0 =>
  zLet (x.getD 1 0) fun n1 =>
  zLet (g0 1 0 10) fun n2 =>
  zLet (g0 40 0 n2) fun n3 =>
  zLet (g0 9 n3 2) fun n4 =>
  zLet (fn103 [4, 0, n1] g0) fun p0 =>
  zLet p0.2.2 fun g1 =>
  zLet (fn154 [] g1) fun p1 =>
  zLet p1.2.2 fun g2 =>
  if 1 ≤ p1.2.1 then
    zLet (fn138 [n4 + 9 * n3 + 1, n0, n1] g2) fun p2 =>
    zLet p2.2.2 fun g3 =>
    if 1 ≤ p2.2.1 then
      zLet (fn139 [n4 + 9 * n3 + 1] g3) fun p3 =>
      zLet p3.2.2 fun g4 =>
      if 1 ≤ p3.2.1 then
        (0, 1, g4)
      else
        (0, 0, g4)
    else
      (0, 0, g3)
  else
    (0, 0, g2)
noncomputable def sn155 : zSpc := fun a g o v g_q => (o, v, g_q) = fn155 [a.getD 0 0, a.getD 1 0] g
noncomputable def fn156 (x : List Int) (g0 : rHp) : zR :=
  zLet (x.getD 0 0) fun n0 =>
  zLet (x.getD 1 0) fun n1 =>
  zLet (g0 1 0 10) fun n2 =>
  zLet (g0 40 0 n2) fun n3 =>
  zLet (g0 9 n3 2) fun n4 =>
  zLet (g0 2 0 6) fun n5 =>
  zLet (g0 2 0 5) fun n12 =>
  zLet (fn115 [] g0) fun p0 =>
  zLet p0.2.2 fun g1 =>
  if 1 ≤ p0.2.1 then
    zLet (g1 2 0 8) fun n22 =>
    if n22 = 361 then
      zLet (fn103 [6, 0, n1] g1) fun p1 =>
      zLet p1.2.2 fun g2 =>
      zLet (fn120 [n0] g2) fun p2 =>
      zLet p2.2.2 fun g3 =>
      zLet (p2.2.1) fun n23 =>
      zLet (rUp g3 10 (n4 + 9 * n3 + 1) 11 n23) fun g4 =>
      if n23 < 0 then
        zLet (fn109 [n1] g4) fun p4 =>
        zLet p4.2.2 fun g5 =>
        (0, 0, g5)
      else
        zLet (fn117 [n23] g4) fun p4 =>
        zLet p4.2.2 fun g5 =>
        if 1 ≤ p4.2.1 then
          zLet (fn109 [n1] g5) fun p5 =>
          zLet p5.2.2 fun g6 =>
          (0, 0, g6)
        else
          zLet (fn139 [n4 + 9 * n3 + 1] g5) fun p5 =>
          zLet p5.2.2 fun g6 =>
          if 1 ≤ p5.2.1 then
            zLet (fn114 [] g6) fun p6 =>
            zLet p6.2.2 fun g7 =>
            if 0 ≤ p6.2.1 then
              zLet (p6.2.1) fun n29 =>
              zLet (g7 2 0 6) fun n30 =>
              if n29 = 43 then
                zLet (rUp g7 2 0 6 (n30 + 1)) fun g8 =>
                zLet (rUp g8 10 (n4 + 9 * n3 + 1) 4 6) fun g9 =>
                zLet (fn139 [n4 + 9 * n3 + 1] g9) fun p9 =>
                zLet p9.2.2 fun g10 =>
                if 1 ≤ p9.2.1 then
                  zLet (zF2 .ishl 1 n23) fun n35 =>
                  zLet (zF2 .ior n12 n35) fun n36 =>
                  zLet (rUp g10 2 0 5 n36) fun g11 =>
                  (0, 1, g11)
                else
                  (0, 0, g10)
              else
                if n29 = 45 then
                  zLet (rUp g7 2 0 6 (n30 + 1)) fun g8 =>
                  zLet (rUp g8 10 (n4 + 9 * n3 + 1) 4 7) fun g9 =>
                  zLet (fn139 [n4 + 9 * n3 + 1] g9) fun p9 =>
                  zLet p9.2.2 fun g10 =>
                  if 1 ≤ p9.2.1 then
                    zLet (zF2 .ishl 1 n23) fun n35 =>
                    zLet (zF2 .ior n12 n35) fun n36 =>
                    zLet (rUp g10 2 0 5 n36) fun g11 =>
                    (0, 1, g11)
                  else
                    (0, 0, g10)
                else
                  if n29 = 42 then
                    zLet (rUp g7 2 0 6 (n30 + 1)) fun g8 =>
                    zLet (rUp g8 10 (n4 + 9 * n3 + 1) 4 8) fun g9 =>
                    zLet (fn139 [n4 + 9 * n3 + 1] g9) fun p9 =>
                    zLet p9.2.2 fun g10 =>
                    if 1 ≤ p9.2.1 then
                      zLet (zF2 .ishl 1 n23) fun n35 =>
                      zLet (zF2 .ior n12 n35) fun n36 =>
                      zLet (rUp g10 2 0 5 n36) fun g11 =>
                      (0, 1, g11)
                    else
                      (0, 0, g10)
                  else
                    zLet (fn109 [n30] g7) fun p7 =>
                    zLet p7.2.2 fun g8 =>
                    (0, 0, g8)
            else
              zLet (g7 2 0 6) fun n29 =>
              zLet (fn109 [n29] g7) fun p7 =>
              zLet p7.2.2 fun g8 =>
              (0, 0, g8)
          else
            (0, 0, g6)
    else
      zLet (fn109 [n5] g1) fun p1 =>
      zLet p1.2.2 fun g2 =>
      (0, 0, g2)
  else
    (0, 0, g1)
noncomputable def sn156 : zSpc := fun a g o v g_q => (o, v, g_q) = fn156 [a.getD 0 0, a.getD 1 0] g
noncomputable def fn157 (x : List Int) (g0 : rHp) : zR :=
  zLet (g0 1 0 10) fun n0 =>
  zLet (g0 40 0 n0) fun n1 =>
  zLet (g0 9 n1 2) fun n2 =>
  zLet (fn114 [] g0) fun p0 =>
  zLet p0.2.2 fun g1 =>
  if 0 ≤ p0.2.1 then
    zLet (p0.2.1) fun n22 =>
    zLet (g1 2 0 6) fun n23 =>
    if n22 ≠ 33 then
      zLet (fn106 [n22] g1) fun p1 =>
      zLet p1.2.2 fun g2 =>
      if 1 ≤ p1.2.1 then
        zLet (fn115 [] g2) fun p2 =>
        zLet p2.2.2 fun g3 =>
        if 1 ≤ p2.2.1 then
          zLet (fn114 [] g3) fun p3 =>
          zLet p3.2.2 fun g4 =>
          if 0 ≤ p3.2.1 then
            zLet (p3.2.1) fun n25 =>
            zLet (fn105 [n25] g4) fun p4 =>
            zLet p4.2.2 fun g5 =>
            if 1 ≤ p4.2.1 then
              zLet (g3 2 0 8) fun n27 =>
              zLet (fn156 [n27, n23] g5) fun p5 =>
              zLet p5.2.2 fun g6 =>
              if 1 ≤ p5.2.1 then
                (0, 1, g6)
              else
                (0, 0, g6)
            else
              zLet (g3 2 0 8) fun n27 =>
              zLet (fn155 [n27, n23] g5) fun p5 =>
              zLet p5.2.2 fun g6 =>
              if 1 ≤ p5.2.1 then
                (0, 1, g6)
              else
                (0, 0, g6)
          else
            zLet (fn105 [(-1)] g4) fun p4 =>
            zLet p4.2.2 fun g5 =>
            zLet (g3 2 0 8) fun n26 =>
            zLet (fn155 [n26, n23] g5) fun p5 =>
            zLet p5.2.2 fun g6 =>
            (0, 0, g6)
        else
          (0, 0, g3)
      else
        zLet (fn105 [n22] g2) fun p2 =>
        zLet p2.2.2 fun g3 =>
        if 1 ≤ p2.2.1 then
          zLet (fn115 [] g3) fun p3 =>
          zLet p3.2.2 fun g4 =>
          if 1 ≤ p3.2.1 then
            zLet (fn114 [] g4) fun p4 =>
            zLet p4.2.2 fun g5 =>
            if 0 ≤ p4.2.1 then
              zLet (p4.2.1) fun n25 =>
              if n25 ≠ 40 then
                zLet (fn103 [4, 0, n23] g5) fun p5 =>
                zLet p5.2.2 fun g6 =>
                zLet (g4 2 0 8) fun n27 =>
                zLet (fn135 [n2 + 9 * n1 + 1, n27, n23] g6) fun p6 =>
                zLet p6.2.2 fun g7 =>
                if 1 ≤ p6.2.1 then
                  zLet (fn154 [] g7) fun p7 =>
                  zLet p7.2.2 fun g8 =>
                  if 1 ≤ p7.2.1 then
                    zLet (fn139 [n2 + 9 * n1 + 1] g8) fun p8 =>
                    zLet p8.2.2 fun g9 =>
                    if 1 ≤ p8.2.1 then
                      (0, 1, g9)
                    else
                      (0, 0, g9)
                  else
                    (0, 0, g8)
                else
                  (0, 0, g7)
              else
                zLet (fn145 [1] g5) fun p5 =>
                zLet p5.2.2 fun g6 =>
                if 1 ≤ p5.2.1 then
                  (0, 1, g6)
                else
                  (0, 0, g6)
            else
              zLet (fn103 [4, 0, n23] g5) fun p5 =>
              zLet p5.2.2 fun g6 =>
              zLet (g4 2 0 8) fun n26 =>
              zLet (fn135 [n2 + 9 * n1 + 1, n26, n23] g6) fun p6 =>
              zLet p6.2.2 fun g7 =>
              if 1 ≤ p6.2.1 then
                zLet (fn154 [] g7) fun p7 =>
                zLet p7.2.2 fun g8 =>
                (0, 0, g8)
              else
                (0, 0, g7)
          else
            (0, 0, g4)
        else
          zLet (fn107 [n22] g3) fun p3 =>
          zLet p3.2.2 fun g4 =>
          if 1 ≤ p3.2.1 then
            zLet (fn116 [] g4) fun p4 =>
            zLet p4.2.2 fun g5 =>
            if 1 ≤ p4.2.1 then
              zLet (fn103 [4, 0, n23] g5) fun p5 =>
              zLet p5.2.2 fun g6 =>
              zLet (g5 2 0 10) fun n25 =>
              zLet (fn104 [n2 + 9 * n1 + 1, 0, n23, 0, n25] g6) fun p6 =>
              zLet p6.2.2 fun g7 =>
              zLet (fn154 [] g7) fun p7 =>
              zLet p7.2.2 fun g8 =>
              if 1 ≤ p7.2.1 then
                zLet (fn139 [n2 + 9 * n1 + 1] g8) fun p8 =>
                zLet p8.2.2 fun g9 =>
                if 1 ≤ p8.2.1 then
                  (0, 1, g9)
                else
                  (0, 0, g9)
              else
                (0, 0, g8)
            else
              (0, 0, g5)
          else
            if n22 = 45 then
              zLet (fn116 [] g4) fun p4 =>
              zLet p4.2.2 fun g5 =>
              if 1 ≤ p4.2.1 then
                zLet (fn103 [4, 0, n23] g5) fun p5 =>
                zLet p5.2.2 fun g6 =>
                zLet (g5 2 0 10) fun n25 =>
                zLet (fn104 [n2 + 9 * n1 + 1, 0, n23, 0, n25] g6) fun p6 =>
                zLet p6.2.2 fun g7 =>
                zLet (fn154 [] g7) fun p7 =>
                zLet p7.2.2 fun g8 =>
                if 1 ≤ p7.2.1 then
                  zLet (fn139 [n2 + 9 * n1 + 1] g8) fun p8 =>
                  zLet p8.2.2 fun g9 =>
                  if 1 ≤ p8.2.1 then
                    (0, 1, g9)
                  else
                    (0, 0, g9)
                else
                  (0, 0, g8)
              else
                (0, 0, g5)
            else
              zLet (fn109 [n23] g4) fun p4 =>
              zLet p4.2.2 fun g5 =>
              (0, 0, g5)
    else
      zLet (rUp g1 2 0 6 (n23 + 1)) fun g2 =>
      zLet (fn114 [] g2) fun p2 =>
      zLet p2.2.2 fun g3 =>
      if 0 ≤ p2.2.1 then
        zLet (p2.2.1) fun n24 =>
        zLet (g3 2 0 6) fun n25 =>
        zLet (fn105 [n24] g3) fun p3 =>
        zLet p3.2.2 fun g4 =>
        if 1 ≤ p3.2.1 then
          zLet (fn115 [] g4) fun p4 =>
          zLet p4.2.2 fun g5 =>
          if 1 ≤ p4.2.1 then
            zLet (fn145 [2] g5) fun p5 =>
            zLet p5.2.2 fun g6 =>
            if 1 ≤ p5.2.1 then
              (0, 1, g6)
            else
              (0, 0, g6)
          else
            (0, 0, g5)
        else
          zLet (fn109 [n25] g4) fun p4 =>
          zLet p4.2.2 fun g5 =>
          (0, 0, g5)
      else
        zLet (g3 2 0 6) fun n24 =>
        zLet (fn105 [(-1)] g3) fun p3 =>
        zLet p3.2.2 fun g4 =>
        zLet (fn109 [n24] g4) fun p4 =>
        zLet p4.2.2 fun g5 =>
        (0, 0, g5)
  else
    zLet (g1 2 0 6) fun n22 =>
    zLet (fn106 [(-1)] g1) fun p1 =>
    zLet p1.2.2 fun g2 =>
    zLet (fn105 [(-1)] g2) fun p2 =>
    zLet p2.2.2 fun g3 =>
    zLet (fn107 [(-1)] g3) fun p3 =>
    zLet p3.2.2 fun g4 =>
    zLet (fn109 [n22] g4) fun p4 =>
    zLet p4.2.2 fun g5 =>
    (0, 0, g5)
noncomputable def sn157 : zSpc := fun a g o v g_q => (o, v, g_q) = fn157 [] g
noncomputable def dn158 (x : List Int) (g0 : rHp) : zSt :=
  zLet (g0 1 0 10) fun n0 =>
  zLet (g0 40 0 n0) fun n1 =>
  zLet (rUp g0 9 n1 2 0) fun g1 =>
  zLet (rUp g1 9 n1 3 0) fun g2 =>
  .inl (0, [], g2)
noncomputable def en158 (g0 : rHp) (s : Nat × List Int × rHp) : zSt :=
  if s.1 = 0 then
    zLet s.2.2 fun g1 =>
    zLet (g0 1 0 10) fun n0 =>
    zLet (g0 40 0 n0) fun n1 =>
    zLet (g1 9 n1 2) fun n18 =>
    zLet (g1 9 n1 3) fun n20 =>
    if n18 ≥ 8 then
      zLet (fn114 [] g1) fun p1 =>
      zLet p1.2.2 fun g2 =>
      if 0 ≤ p1.2.1 then
        zLet (g2 2 0 6) fun n28 =>
        zLet (fn109 [n28] g2) fun p2 =>
        zLet p2.2.2 fun g3 =>
        .inr (0, 0, g3)
      else
        zLet (g2 2 0 6) fun n27 =>
        zLet (fn109 [n27] g2) fun p2 =>
        zLet p2.2.2 fun g3 =>
        .inr (0, 0, g3)
    else
      zLet (fn132 [n1, n18] g1) fun p1 =>
      zLet p1.2.2 fun g2 =>
      zLet (fn157 [] g2) fun p2 =>
      zLet p2.2.2 fun g3 =>
      if 1 ≤ p2.2.1 then
        if 3 ≤ g3 10 (n18 + 9 * n1 + 1) 4 then
          if 6 ≤ g3 10 (n18 + 9 * n1 + 1) 4 then
            zLet (rUp g3 9 n1 2 (n18 + 1)) fun g4 =>
            zLet (fn114 [] g4) fun p4 =>
            zLet p4.2.2 fun g5 =>
            if 0 ≤ p4.2.1 then
              zLet (p4.2.1) fun n43 =>
              zLet (g5 2 0 6) fun n44 =>
              if n43 ≠ 46 then
                if n43 = 44 then
                  zLet (rUp g5 2 0 6 (n44 + 1)) fun g6 =>
                  .inl (0, [], g6)
                else
                  zLet (fn109 [n44] g5) fun p5 =>
                  zLet p5.2.2 fun g6 =>
                  .inr (0, 0, g6)
              else
                zLet (rUp g5 2 0 6 (n44 + 1)) fun g6 =>
                zLet (fn153 [9 * n1] g6) fun p6 =>
                zLet p6.2.2 fun g7 =>
                if 1 ≤ p6.2.1 then
                  zLet (fn152 [] g7) fun p7 =>
                  zLet p7.2.2 fun g8 =>
                  if 1 ≤ p7.2.1 then
                    .inr (0, 1, g8)
                  else
                    .inr (0, 0, g8)
                else
                  .inr (0, 0, g7)
            else
              zLet (g5 2 0 6) fun n43 =>
              zLet (fn109 [n43] g5) fun p5 =>
              zLet p5.2.2 fun g6 =>
              .inr (0, 0, g6)
          else
            zLet (rUp g3 9 n1 2 (n18 + 1)) fun g4 =>
            zLet (fn114 [] g4) fun p4 =>
            zLet p4.2.2 fun g5 =>
            if 0 ≤ p4.2.1 then
              zLet (p4.2.1) fun n40 =>
              zLet (g5 2 0 6) fun n41 =>
              if n40 ≠ 46 then
                if n40 = 44 then
                  zLet (rUp g5 2 0 6 (n41 + 1)) fun g6 =>
                  .inl (0, [], g6)
                else
                  zLet (fn109 [n41] g5) fun p5 =>
                  zLet p5.2.2 fun g6 =>
                  .inr (0, 0, g6)
              else
                zLet (rUp g5 2 0 6 (n41 + 1)) fun g6 =>
                zLet (fn153 [9 * n1] g6) fun p6 =>
                zLet p6.2.2 fun g7 =>
                if 1 ≤ p6.2.1 then
                  zLet (fn152 [] g7) fun p7 =>
                  zLet p7.2.2 fun g8 =>
                  if 1 ≤ p7.2.1 then
                    .inr (0, 1, g8)
                  else
                    .inr (0, 0, g8)
                else
                  .inr (0, 0, g7)
            else
              zLet (g5 2 0 6) fun n40 =>
              zLet (fn109 [n40] g5) fun p5 =>
              zLet p5.2.2 fun g6 =>
              .inr (0, 0, g6)
        else
          zLet (g3 10 (n18 + 9 * n1 + 1) 4) fun n35 =>
          zLet (rUp g3 9 n1 2 (n18 + 1)) fun g4 =>
          if n35 ≠ 1 then
            zLet (fn114 [] g4) fun p4 =>
            zLet p4.2.2 fun g5 =>
            if 0 ≤ p4.2.1 then
              zLet (p4.2.1) fun n47 =>
              zLet (g5 2 0 6) fun n48 =>
              if n47 ≠ 46 then
                if n47 = 44 then
                  zLet (rUp g5 2 0 6 (n48 + 1)) fun g6 =>
                  .inl (0, [], g6)
                else
                  zLet (fn109 [n48] g5) fun p5 =>
                  zLet p5.2.2 fun g6 =>
                  .inr (0, 0, g6)
              else
                zLet (rUp g5 2 0 6 (n48 + 1)) fun g6 =>
                zLet (fn153 [9 * n1] g6) fun p6 =>
                zLet p6.2.2 fun g7 =>
                if 1 ≤ p6.2.1 then
                  zLet (fn152 [] g7) fun p7 =>
                  zLet p7.2.2 fun g8 =>
                  if 1 ≤ p7.2.1 then
                    .inr (0, 1, g8)
                  else
                    .inr (0, 0, g8)
                else
                  .inr (0, 0, g7)
            else
              zLet (g5 2 0 6) fun n47 =>
              zLet (fn109 [n47] g5) fun p5 =>
              zLet p5.2.2 fun g6 =>
              .inr (0, 0, g6)
          else
            zLet (rUp g4 10 (n18 + 9 * n1 + 1) 10 n20) fun g5 =>
            zLet (rUp g5 9 n1 3 (n20 + 1)) fun g6 =>
            zLet (fn114 [] g6) fun p6 =>
            zLet p6.2.2 fun g7 =>
            if 0 ≤ p6.2.1 then
              zLet (p6.2.1) fun n47 =>
              zLet (g7 2 0 6) fun n48 =>
              if n47 ≠ 46 then
                if n47 = 44 then
                  zLet (rUp g7 2 0 6 (n48 + 1)) fun g8 =>
                  .inl (0, [], g8)
                else
                  zLet (fn109 [n48] g7) fun p7 =>
                  zLet p7.2.2 fun g8 =>
                  .inr (0, 0, g8)
              else
                zLet (rUp g7 2 0 6 (n48 + 1)) fun g8 =>
                zLet (fn153 [9 * n1] g8) fun p8 =>
                zLet p8.2.2 fun g9 =>
                if 1 ≤ p8.2.1 then
                  zLet (fn152 [] g9) fun p9 =>
                  zLet p9.2.2 fun g10 =>
                  if 1 ≤ p9.2.1 then
                    .inr (0, 1, g10)
                  else
                    .inr (0, 0, g10)
                else
                  .inr (0, 0, g9)
            else
              zLet (g7 2 0 6) fun n47 =>
              zLet (fn109 [n47] g7) fun p7 =>
              zLet p7.2.2 fun g8 =>
              .inr (0, 0, g8)
      else
        .inr (0, 0, g3)
  else .inr (0, 0, g0)
noncomputable def fn158 (x : List Int) (g : rHp) : zR := zGoo (en158 g) (dn158 x g)
noncomputable def sn158 : zSpc := fun a g o v g_q => (o, v, g_q) = fn158 [] g
noncomputable def pl158 : Nat → List Int → List Int
  | 0, vs => []
  | _, _ => []
noncomputable def jn158 : List Int → rHp → Nat → List Int → rHp → Prop := fun a g i vs g1 => fn158 [] g = zLoop (en158 g) (i, pl158 i vs, g1)
noncomputable def dn159 (x : List Int) (g0 : rHp) : zSt :=
  zLet (g0 1 0 10) fun n0 =>
  zLet (g0 40 0 n0) fun n1 =>
  zLet (rUp g0 9 n1 2 0) fun g1 =>
  zLet (rUp g1 9 n1 3 0) fun g2 =>
  .inl (0, [], g2)
noncomputable def en159 (g0 : rHp) (s : Nat × List Int × rHp) : zSt :=
  if s.1 = 0 then
    zLet s.2.2 fun g1 =>
    zLet (g0 1 0 10) fun n0 =>
    zLet (g0 40 0 n0) fun n1 =>
    zLet (g1 9 n1 2) fun n17 =>
    zLet (g1 9 n1 3) fun n19 =>
    if n17 ≥ 8 then
      zLet (fn114 [] g1) fun p1 =>
      zLet p1.2.2 fun g2 =>
      if 0 ≤ p1.2.1 then
        zLet (g2 2 0 6) fun n27 =>
        zLet (fn109 [n27] g2) fun p2 =>
        zLet p2.2.2 fun g3 =>
        .inr (0, 0, g3)
      else
        zLet (g2 2 0 6) fun n26 =>
        zLet (fn109 [n26] g2) fun p2 =>
        zLet p2.2.2 fun g3 =>
        .inr (0, 0, g3)
    else
      zLet (fn132 [n1, n17] g1) fun p1 =>
      zLet p1.2.2 fun g2 =>
      zLet (fn157 [] g2) fun p2 =>
      zLet p2.2.2 fun g3 =>
      if 1 ≤ p2.2.1 then
        if 3 ≤ g3 10 (n17 + 9 * n1 + 1) 4 then
          if 6 ≤ g3 10 (n17 + 9 * n1 + 1) 4 then
            zLet (rUp g3 9 n1 2 (n17 + 1)) fun g4 =>
            zLet (fn114 [] g4) fun p4 =>
            zLet p4.2.2 fun g5 =>
            if 0 ≤ p4.2.1 then
              zLet (p4.2.1) fun n42 =>
              zLet (g5 2 0 6) fun n43 =>
              if n42 = 44 then
                zLet (rUp g5 2 0 6 (n43 + 1)) fun g6 =>
                .inl (0, [], g6)
              else
                zLet (fn109 [n43] g5) fun p5 =>
                zLet p5.2.2 fun g6 =>
                .inr (0, 0, g6)
            else
              zLet (g5 2 0 6) fun n42 =>
              zLet (rUp g5 2 0 6 (n42 + 1)) fun g6 =>
              zLet (fn152 [] g6) fun p6 =>
              zLet p6.2.2 fun g7 =>
              if 1 ≤ p6.2.1 then
                .inr (0, 1, g7)
              else
                .inr (0, 0, g7)
          else
            zLet (rUp g3 9 n1 2 (n17 + 1)) fun g4 =>
            zLet (fn114 [] g4) fun p4 =>
            zLet p4.2.2 fun g5 =>
            if 0 ≤ p4.2.1 then
              zLet (p4.2.1) fun n39 =>
              zLet (g5 2 0 6) fun n40 =>
              if n39 = 44 then
                zLet (rUp g5 2 0 6 (n40 + 1)) fun g6 =>
                .inl (0, [], g6)
              else
                zLet (fn109 [n40] g5) fun p5 =>
                zLet p5.2.2 fun g6 =>
                .inr (0, 0, g6)
            else
              zLet (g5 2 0 6) fun n39 =>
              zLet (rUp g5 2 0 6 (n39 + 1)) fun g6 =>
              zLet (fn152 [] g6) fun p6 =>
              zLet p6.2.2 fun g7 =>
              if 1 ≤ p6.2.1 then
                .inr (0, 1, g7)
              else
                .inr (0, 0, g7)
        else
          zLet (g3 10 (n17 + 9 * n1 + 1) 4) fun n34 =>
          zLet (rUp g3 9 n1 2 (n17 + 1)) fun g4 =>
          if n34 ≠ 1 then
            zLet (fn114 [] g4) fun p4 =>
            zLet p4.2.2 fun g5 =>
            if 0 ≤ p4.2.1 then
              zLet (p4.2.1) fun n46 =>
              zLet (g5 2 0 6) fun n47 =>
              if n46 = 44 then
                zLet (rUp g5 2 0 6 (n47 + 1)) fun g6 =>
                .inl (0, [], g6)
              else
                zLet (fn109 [n47] g5) fun p5 =>
                zLet p5.2.2 fun g6 =>
                .inr (0, 0, g6)
            else
              zLet (g5 2 0 6) fun n46 =>
              zLet (rUp g5 2 0 6 (n46 + 1)) fun g6 =>
              zLet (fn152 [] g6) fun p6 =>
              zLet p6.2.2 fun g7 =>
              if 1 ≤ p6.2.1 then
                .inr (0, 1, g7)
              else
                .inr (0, 0, g7)
          else
            zLet (rUp g4 10 (n17 + 9 * n1 + 1) 10 n19) fun g5 =>
            zLet (rUp g5 9 n1 3 (n19 + 1)) fun g6 =>
            zLet (fn114 [] g6) fun p6 =>
            zLet p6.2.2 fun g7 =>
            if 0 ≤ p6.2.1 then
              zLet (p6.2.1) fun n46 =>
              zLet (g7 2 0 6) fun n47 =>
              if n46 = 44 then
                zLet (rUp g7 2 0 6 (n47 + 1)) fun g8 =>
                .inl (0, [], g8)
              else
                zLet (fn109 [n47] g7) fun p7 =>
                zLet p7.2.2 fun g8 =>
                .inr (0, 0, g8)
            else
              zLet (g7 2 0 6) fun n46 =>
              zLet (rUp g7 2 0 6 (n46 + 1)) fun g8 =>
              zLet (fn152 [] g8) fun p8 =>
              zLet p8.2.2 fun g9 =>
              if 1 ≤ p8.2.1 then
                .inr (0, 1, g9)
              else
                .inr (0, 0, g9)
      else
        .inr (0, 0, g3)
  else .inr (0, 0, g0)
noncomputable def fn159 (x : List Int) (g : rHp) : zR := zGoo (en159 g) (dn159 x g)
noncomputable def sn159 : zSpc := fun a g o v g_q => (o, v, g_q) = fn159 [] g
noncomputable def pl159 : Nat → List Int → List Int
  | 0, vs => []
  | _, _ => []
noncomputable def jn159 : List Int → rHp → Nat → List Int → rHp → Prop := fun a g i vs g1 => fn159 [] g = zLoop (en159 g) (i, pl159 i vs, g1)
noncomputable def fn160 (x : List Int) (g0 : rHp) : zR :=
  zLet (g0 1 0 10) fun n0 =>
  if n0 < 60 then
    zLet (rUp g0 1 0 10 (n0 + 1)) fun g1 =>
    (0, 1, g1)
  else
    (0, 0, g0)
noncomputable def sn160 : zSpc := fun a g o v g_q => (o, v, g_q) = fn160 [] g
noncomputable def fn161 (x : List Int) (g0 : rHp) : zR :=
  zLet (g0 1 0 13) fun n1 =>
  zLet (g0 1 0 11) fun n4 =>
  zLet (g0 1 0 12) fun n5 =>
  zLet (rUp g0 1 0 7 n4) fun g1 =>
  zLet (rUp g1 1 0 9 n5) fun g2 =>
  zLet (rUp g2 1 0 10 n1) fun g3 =>
  (0, 0, g3)
noncomputable def sn161 : zSpc := fun a g o v g_q => (o, v, g_q) = fn161 [] g
noncomputable def fn162 (x : List Int) (g0 : rHp) : zR :=
  zLet (x.getD 0 0) fun n0 =>
  zLet (rUp g0 8 n0 1 0) fun g1 =>
  zLet (rUp g1 8 n0 2 0) fun g2 =>
  (0, 0, g2)
noncomputable def sn162 : zSpc := fun a g o v g_q => (o, v, g_q) = fn162 [a.getD 0 0] g
noncomputable def fn163 (x : List Int) (g0 : rHp) : zR :=
  zLet (rUp g0 0 0 7 0) fun g1 =>
  zLet (g0 0 0 5) fun n0 =>
  zLet (fn162 [n0] g1) fun p1 =>
  zLet p1.2.2 fun g2 =>
  (0, 0, g2)
noncomputable def sn163 : zSpc := fun a g o v g_q => (o, v, g_q) = fn163 [] g
noncomputable def fn164 (x : List Int) (g0 : rHp) : zR :=
  zLet (x.getD 0 0) fun n0 =>
  zLet (x.getD 1 0) fun n1 =>
  zLet (x.getD 2 0) fun n2 =>
  zLet (x.getD 3 0) fun n3 =>
  zLet (x.getD 4 0) fun n4 =>
  zLet (g0 2 0 3) fun n5 =>
  if n5 + 20 ≤ 2000 then
    zLet (fn113 [n0] g0) fun p0 =>
    zLet p0.2.2 fun g1 =>
    zLet (fn113 [n1] g1) fun p1 =>
    zLet p1.2.2 fun g2 =>
    zLet (fn113 [n2] g2) fun p2 =>
    zLet p2.2.2 fun g3 =>
    zLet (fn113 [n3] g3) fun p3 =>
    zLet p3.2.2 fun g4 =>
    zLet (fn113 [n4] g4) fun p4 =>
    zLet p4.2.2 fun g5 =>
    (0, n5 + 20, g5)
  else
    (1, 0, g0)
noncomputable def sn164 : zSpc := fun a g o v g_q => (o, v, g_q) = fn164 [a.getD 0 0, a.getD 1 0, a.getD 2 0, a.getD 3 0, a.getD 4 0] g
noncomputable def fn165 (x : List Int) (g0 : rHp) : zR :=
  zLet (x.getD 0 0) fun n0 =>
  zLet (g0 2 0 3) fun n1 =>
  if n0 < 0 then
    (2, 0, g0)
  else
    if n0 ≤ n1 then
      zLet (rUp g0 2 0 3 n0) fun g1 =>
      (0, n0, g1)
    else
      (2, 0, g0)
noncomputable def sn165 : zSpc := fun a g o v g_q => (o, v, g_q) = fn165 [a.getD 0 0] g
noncomputable def dn166 (x : List Int) (g0 : rHp) : zSt :=
  zLet (fn123 [] g0) fun p0 =>
  zLet p0.2.2 fun g1 =>
  zLet (fn111 [0] g1) fun p1 =>
  zLet p1.2.2 fun g2 =>
  .inl (0, [1, 0], g2)
noncomputable def en166 (g0 : rHp) (s : Nat × List Int × rHp) : zSt :=
  if s.1 = 0 then
    zLet s.2.2 fun g1 =>
    zLet (s.2.1.getD 0 0) fun n27 =>
    zLet (s.2.1.getD 1 0) fun n28 =>
    zLet (g1 1 0 10) fun n29 =>
    zLet (g1 2 0 4) fun n38 =>
    if n27 = 0 then
      zLet (fn112 [] g1) fun p1 =>
      zLet p1.2.2 fun g2 =>
      zLet (fn161 [] g2) fun p2 =>
      zLet p2.2.2 fun g3 =>
      .inr (0, -n38 + (-1), g3)
    else
      if n28 ≥ 2000 then
        zLet (fn112 [] g1) fun p1 =>
        zLet p1.2.2 fun g2 =>
        zLet (fn124 [] g2) fun p2 =>
        zLet p2.2.2 fun g3 =>
        if 1 ≤ p2.2.1 then
          zLet (fn163 [] g3) fun p3 =>
          zLet p3.2.2 fun g4 =>
          .inr (0, n28, g4)
        else
          .inr (0, n28, g3)
      else
        zLet (fn114 [] g1) fun p1 =>
        zLet p1.2.2 fun g2 =>
        if 0 ≤ p1.2.1 then
          zLet (g0 40 0 n29) fun n53 =>
          zLet (fn131 [n29] g2) fun p2 =>
          zLet p2.2.2 fun g3 =>
          zLet (fn146 [] g3) fun p3 =>
          zLet p3.2.2 fun g4 =>
          if 1 ≤ p3.2.1 then
            zLet (fn114 [] g4) fun p4 =>
            zLet p4.2.2 fun g5 =>
            if 0 ≤ p4.2.1 then
              zLet (p4.2.1) fun n81 =>
              if n81 ≠ 46 then
                zLet (fn151 [9 * n53] g5) fun p5 =>
                zLet p5.2.2 fun g6 =>
                if 1 ≤ p5.2.1 then
                  zLet (fn158 [] g6) fun p6 =>
                  zLet p6.2.2 fun g7 =>
                  if 1 ≤ p6.2.1 then
                    zLet (fn160 [] g7) fun p7 =>
                    zLet p7.2.2 fun g8 =>
                    .inl (0, [1, n28 + 1], g8)
                  else
                    .inl (0, [0, n28 + 1], g7)
                else
                  .inl (0, [0, n28 + 1], g6)
              else
                zLet (fn150 [9 * n53] g5) fun p5 =>
                zLet p5.2.2 fun g6 =>
                if 1 ≤ p5.2.1 then
                  .inl (0, [1, n28 + 1], g6)
                else
                  .inl (0, [0, n28 + 1], g6)
            else
              zLet (fn151 [9 * n53] g5) fun p5 =>
              zLet p5.2.2 fun g6 =>
              .inl (0, [0, n28 + 1], g6)
          else
            .inl (0, [0, n28 + 1], g4)
        else
          zLet (fn112 [] g2) fun p2 =>
          zLet p2.2.2 fun g3 =>
          zLet (fn124 [] g3) fun p3 =>
          zLet p3.2.2 fun g4 =>
          if 1 ≤ p3.2.1 then
            zLet (fn163 [] g4) fun p4 =>
            zLet p4.2.2 fun g5 =>
            .inr (0, n28, g5)
          else
            .inr (0, n28, g4)
  else .inr (0, 0, g0)
noncomputable def fn166 (x : List Int) (g : rHp) : zR := zGoo (en166 g) (dn166 x g)
noncomputable def sn166 : zSpc := fun a g o v g_q => (o, v, g_q) = fn166 [] g
noncomputable def pl166 : Nat → List Int → List Int
  | 0, vs => [vs.getD 27 0, vs.getD 28 0]
  | _, _ => []
noncomputable def jn166 : List Int → rHp → Nat → List Int → rHp → Prop := fun a g i vs g1 => fn166 [] g = zLoop (en166 g) (i, pl166 i vs, g1)
noncomputable def fn167 (x : List Int) (g0 : rHp) : zR :=
  zLet (g0 1 0 10) fun n0 =>
  zLet (g0 40 0 n0) fun n1 =>
  zLet (fn131 [n0] g0) fun p0 =>
  zLet p0.2.2 fun g1 =>
  zLet (fn111 [1] g1) fun p1 =>
  zLet p1.2.2 fun g2 =>
  zLet (fn146 [] g2) fun p2 =>
  zLet p2.2.2 fun g3 =>
  if 1 ≤ p2.2.1 then
    if 0 ≤ g3 10 (9 * n1) 8 then
      zLet (fn148 [9 * n1] g3) fun p3 =>
      zLet p3.2.2 fun g4 =>
      if 1 ≤ p3.2.1 then
        zLet (fn149 [] g4) fun p4 =>
        zLet p4.2.2 fun g5 =>
        if 1 ≤ p4.2.1 then
          zLet (fn112 [] g5) fun p5 =>
          zLet p5.2.2 fun g6 =>
          zLet (fn128 [9 * n1] g6) fun p6 =>
          zLet p6.2.2 fun g7 =>
          zLet (p6.2.1) fun n42 =>
          if n42 ≥ 0 then
            zLet (fn130 [n42] g7) fun p7 =>
            zLet p7.2.2 fun g8 =>
            zLet (fn163 [] g8) fun p8 =>
            zLet p8.2.2 fun g9 =>
            (0, 1, g9)
          else
            (0, 0, g7)
        else
          zLet (g5 2 0 4) fun n42 =>
          zLet (fn112 [] g5) fun p5 =>
          zLet p5.2.2 fun g6 =>
          (0, -n42 + (-1), g6)
      else
        zLet (g4 2 0 4) fun n41 =>
        zLet (fn112 [] g4) fun p4 =>
        zLet p4.2.2 fun g5 =>
        (0, -n41 + (-1), g5)
    else
      zLet (fn148 [9 * n1] g3) fun p3 =>
      zLet p3.2.2 fun g4 =>
      if 1 ≤ p3.2.1 then
        zLet (fn149 [] g4) fun p4 =>
        zLet p4.2.2 fun g5 =>
        if 1 ≤ p4.2.1 then
          zLet (fn112 [] g5) fun p5 =>
          zLet p5.2.2 fun g6 =>
          zLet (fn128 [9 * n1] g6) fun p6 =>
          zLet p6.2.2 fun g7 =>
          zLet (p6.2.1) fun n41 =>
          if n41 ≥ 0 then
            zLet (fn130 [n41] g7) fun p7 =>
            zLet p7.2.2 fun g8 =>
            zLet (fn163 [] g8) fun p8 =>
            zLet p8.2.2 fun g9 =>
            (0, 1, g9)
          else
            (0, 0, g7)
        else
          zLet (g5 2 0 4) fun n41 =>
          zLet (fn112 [] g5) fun p5 =>
          zLet p5.2.2 fun g6 =>
          (0, -n41 + (-1), g6)
      else
        zLet (g4 2 0 4) fun n40 =>
        zLet (fn112 [] g4) fun p4 =>
        zLet p4.2.2 fun g5 =>
        (0, -n40 + (-1), g5)
  else
    zLet (g3 2 0 4) fun n29 =>
    zLet (fn112 [] g3) fun p3 =>
    zLet p3.2.2 fun g4 =>
    (0, -n29 + (-1), g4)
noncomputable def sn167 : zSpc := fun a g o v g_q => (o, v, g_q) = fn167 [] g
/-- the RULE r goes behind the others, and they are one less -/
noncomputable def fn168 (x : List Int) (g0 : rHp) : zR :=
  zLet (x.getD 0 0) fun r =>
  zLet (g0 1 0 10) fun n =>
  (0, 0, rUp (fun G k j => if G = 40 ∧ k = 0 ∧ r ≤ j ∧ j < n - 1 then g0 40 0 (j + 1) else if G = 40 ∧ k = 0 ∧ j = n - 1 then g0 40 0 r else g0 G k j) 1 0 10 (n - 1))

noncomputable def sn168 : zSpc := fun a g o v g_q => (o, v, g_q) = fn168 [a.getD 0 0] g
noncomputable def fn169 (x : List Int) (g0 : rHp) : zR :=
  zLet (x.getD 0 0) fun n0 =>
  zLet (g0 1 0 10) fun n1 =>
  if n0 < 0 then
    (1, 0, g0)
  else
    if n0 < n1 then
      zLet (fn168 [n0] g0) fun p0 =>
      zLet p0.2.2 fun g1 =>
      zLet (fn163 [] g1) fun p1 =>
      zLet p1.2.2 fun g2 =>
      (0, n1 + (-1), g2)
    else
      (1, 0, g0)
noncomputable def sn169 : zSpc := fun a g o v g_q => (o, v, g_q) = fn169 [a.getD 0 0] g
noncomputable def fn170 (x : List Int) (g0 : rHp) : zR :=
  zLet (g0 0 0 7) fun n0 =>
  if n0 ≠ 0 then
    (0, 0, g0)
  else
    (5, 0, g0)
noncomputable def sn170 : zSpc := fun a g o v g_q => (o, v, g_q) = fn170 [] g
noncomputable def fn171 (x : List Int) (g0 : rHp) : zR :=
  zLet (x.getD 0 0) fun n0 =>
  zLet (g0 4 0 7) fun n1 =>
  zLet (fn170 [] g0) fun p0 =>
  zLet p0.2.2 fun g1 =>
  if p0.1 = 0 then
    if n0 < 0 then
      (1, 0, g1)
    else
      if n0 < n1 then
        (0, 0, g1)
      else
        (1, 0, g1)
  else
    (5, 0, g1)
noncomputable def sn171 : zSpc := fun a g o v g_q => (o, v, g_q) = fn171 [a.getD 0 0] g
noncomputable def fn172 (x : List Int) (g0 : rHp) : zR :=
  zLet (x.getD 0 0) fun n0 =>
  if n0 ≥ 1099511627776 then
    (0, 0, g0)
  else
    (0, 1, g0)
noncomputable def sn172 : zSpc := fun a g o v g_q => (o, v, g_q) = fn172 [a.getD 0 0] g
noncomputable def fn173 (x : List Int) (g0 : rHp) : zR :=
  zLet (x.getD 0 0) fun n0 =>
  zLet (fn172 [n0] g0) fun p0 =>
  zLet p0.2.2 fun g1 =>
  if 1 ≤ p0.2.1 then
    zLet (zF1 .l2i n0) fun n1 =>
    (0, n1, g1)
  else
    zLet (zF1 .l2i (n0 + (-1099511627776))) fun n1 =>
    zLet (zF2 .iadd 200000000 n1) fun n2 =>
    (0, n2, g1)
noncomputable def sn173 : zSpc := fun a g o v g_q => (o, v, g_q) = fn173 [a.getD 0 0] g
noncomputable def fn174 (x : List Int) (g0 : rHp) : zR :=
  zLet (x.getD 0 0) fun n0 =>
  zLet (x.getD 1 0) fun n1 =>
  if n1 < 0 then
    (2, 0, g0)
  else
    if n1 < 9 then
      zLet (fn171 [n0] g0) fun p0 =>
      zLet p0.2.2 fun g1 =>
      if p0.1 = 0 then
        zLet (g0 28 0 n0) fun n3 =>
        if 0 ≤ -n1 + 3 then
          zLet (g0 17 0 n3) fun n4 =>
          if n1 ≥ n4 then
            (0, 300000000, g1)
          else
            zLet (g0 27 0 (n1 + 4 * n0)) fun n5 =>
            zLet (fn173 [n5] g1) fun p1 =>
            zLet p1.2.2 fun g2 =>
            zLet (p1.2.1) fun n6 =>
            (0, n6, g2)
        else
          if n1 = 4 then
            (0, n3, g1)
          else
            if n1 = 5 then
              zLet (g0 18 0 n3) fun n4 =>
              (0, n4, g1)
            else
              if n1 = 6 then
                zLet (g0 29 0 n0) fun n4 =>
                (0, n4, g1)
              else
                if n1 = 7 then
                  zLet (g0 30 0 n0) fun n4 =>
                  (0, n4, g1)
                else
                  zLet (g0 32 0 n0) fun n4 =>
                  (0, n4, g1)
      else
        if p0.1 = 1 then
          (1, 0, g1)
        else
          (5, 0, g1)
    else
      (2, 0, g0)
noncomputable def sn174 : zSpc := fun a g o v g_q => (o, v, g_q) = fn174 [a.getD 0 0, a.getD 1 0] g
noncomputable def fn175 (x : List Int) (g0 : rHp) : zR :=
  zLet (x.getD 0 0) fun n0 =>
  zLet (x.getD 1 0) fun n1 =>
  zLet (fn171 [n0] g0) fun p0 =>
  zLet p0.2.2 fun g1 =>
  if p0.1 = 0 then
    if n1 < 0 then
      (1, 0, g1)
    else
      zLet (g0 32 0 n0) fun n3 =>
      if n1 < n3 then
        zLet (g0 31 0 (n1 + 8 * n0)) fun n4 =>
        (0, n4, g1)
      else
        (1, 0, g1)
  else
    if p0.1 = 1 then
      (1, 0, g1)
    else
      (5, 0, g1)
noncomputable def sn175 : zSpc := fun a g o v g_q => (o, v, g_q) = fn175 [a.getD 0 0, a.getD 1 0] g
noncomputable def fn176 (x : List Int) (g0 : rHp) : zR :=
  zLet (x.getD 0 0) fun n0 =>
  zLet (x.getD 1 0) fun n1 =>
  if n0 < 0 then
    (1, 0, g0)
  else
    zLet (g0 0 0 5) fun n2 =>
    zLet (g0 8 n2 1) fun n3 =>
    zLet (fn100 [n3, 100] g0) fun p0 =>
    zLet p0.2.2 fun g1 =>
    if 0 ≤ -n3 + 100 then
      if n0 < n3 then
        if n1 < 0 then
          (1, 0, g1)
        else
          if n1 ≥ 8 then
            (1, 0, g1)
          else
            zLet (g0 8 n2 2) fun n4 =>
            zLet (zF2 .ishr n4 n1) fun n5 =>
            zLet (zF2 .iand n5 1) fun n6 =>
            if n6 ≠ 0 then
              zLet (g0 41 n2 (n1 + 8 * n0)) fun n7 =>
              zLet (fn173 [n7] g1) fun p1 =>
              zLet p1.2.2 fun g2 =>
              zLet (p1.2.1) fun n8 =>
              (0, n8, g2)
            else
              (1, 0, g1)
      else
        (1, 0, g1)
    else
      if n0 < 100 then
        if n1 < 0 then
          (1, 0, g1)
        else
          if n1 ≥ 8 then
            (1, 0, g1)
          else
            zLet (g0 8 n2 2) fun n4 =>
            zLet (zF2 .ishr n4 n1) fun n5 =>
            zLet (zF2 .iand n5 1) fun n6 =>
            if n6 ≠ 0 then
              zLet (g0 41 n2 (n1 + 8 * n0)) fun n7 =>
              zLet (fn173 [n7] g1) fun p1 =>
              zLet p1.2.2 fun g2 =>
              zLet (p1.2.1) fun n8 =>
              (0, n8, g2)
            else
              (1, 0, g1)
      else
        (1, 0, g1)
noncomputable def sn176 : zSpc := fun a g o v g_q => (o, v, g_q) = fn176 [a.getD 0 0, a.getD 1 0] g
noncomputable def fn177 (x : List Int) (g0 : rHp) : zR :=
  zLet (x.getD 0 0) fun n0 =>
  zLet (g0 1 0 7) fun n1 =>
  zLet (fn170 [] g0) fun p0 =>
  zLet p0.2.2 fun g1 =>
  if p0.1 = 0 then
    if n0 < 0 then
      (1, 0, g1)
    else
      if n0 < n1 then
        zLet (g0 18 0 n0) fun n2 =>
        (0, n2, g1)
      else
        (1, 0, g1)
  else
    (5, 0, g1)
noncomputable def sn177 : zSpc := fun a g o v g_q => (o, v, g_q) = fn177 [a.getD 0 0] g
noncomputable def dn178 (x : List Int) (g0 : rHp) : zSt :=
  zLet (x.getD 0 0) fun n0 =>
  zLet (g0 7 0 1) fun n1 =>
  if n0 < 0 then
    .inr (1, 0, g0)
  else
    if n0 < n1 then
      .inl (0, [n0, 0, 0], g0)
    else
      .inr (1, 0, g0)
noncomputable def en178 (g0 : rHp) (s : Nat × List Int × rHp) : zSt :=
  if s.1 = 0 then
    zLet s.2.2 fun g1 =>
    zLet (s.2.1.getD 0 0) fun n0 =>
    zLet (s.2.1.getD 1 0) fun n2 =>
    zLet (s.2.1.getD 2 0) fun n3 =>
    zLet (g0 7 0 1) fun n1 =>
    if n2 ≥ 8 then
      .inr (0, n3, g1)
    else
      zLet (zF2 .lshl n3 8) fun n4 =>
      if n2 + n0 ≥ n1 then
        zLet (zF2 .lor n4 0) fun n5 =>
        .inl (0, [n0, n2 + 1, n5], g1)
      else
        zLet (g0 39 0 (n2 + n0)) fun n5 =>
        zLet (zF2 .lor n4 n5) fun n6 =>
        .inl (0, [n0, n2 + 1, n6], g1)
  else .inr (0, 0, g0)
noncomputable def fn178 (x : List Int) (g : rHp) : zR := zGoo (en178 g) (dn178 x g)
noncomputable def sn178 : zSpc := fun a g o v g_q => (o, v, g_q) = fn178 [a.getD 0 0] g
noncomputable def pl178 : Nat → List Int → List Int
  | 0, vs => [vs.getD 0 0, vs.getD 2 0, vs.getD 3 0]
  | _, _ => []
noncomputable def jn178 : List Int → rHp → Nat → List Int → rHp → Prop := fun a g i vs g1 => fn178 [a.getD 0 0] g = zLoop (en178 g) (i, pl178 i vs, g1)
noncomputable def fn179 (x : List Int) (g0 : rHp) : zR :=
  zLet (x.getD 0 0) fun n0 =>
  zLet (g0 0 0 8) fun n1 =>
  zLet (g0 0 0 9) fun n2 =>
  zLet (g0 1 0 7) fun n3 =>
  zLet (g0 1 0 8) fun n4 =>
  zLet (g0 1 0 9) fun n5 =>
  zLet (g0 1 0 10) fun n6 =>
  zLet (g0 2 0 3) fun n7 =>
  zLet (g0 3 0 1) fun n8 =>
  zLet (g0 4 0 7) fun n9 =>
  zLet (g0 7 0 1) fun n10 =>
  if n0 < 0 then
    (2, 0, g0)
  else
    if n0 < 10 then
      if n0 = 9 then
        (0, n8, g0)
      else
        if n0 = 0 then
          (0, n7, g0)
        else
          if n0 = 1 then
            (0, n10, g0)
          else
            if n0 = 2 then
              (0, n6, g0)
            else
              if n0 = 3 then
                (0, n5, g0)
              else
                if n0 = 4 then
                  (0, n3, g0)
                else
                  if n0 = 5 then
                    zLet (g0 0 0 7) fun n11 =>
                    if n11 = 0 then
                      (0, 0, g0)
                    else
                      (0, n9, g0)
                  else
                    if n0 = 6 then
                      (0, n1, g0)
                    else
                      if n0 = 7 then
                        (0, n2, g0)
                      else
                        zLet (g0 0 0 7) fun n11 =>
                        if n11 = 0 then
                          (0, 0, g0)
                        else
                          (0, n4, g0)
    else
      (2, 0, g0)
noncomputable def sn179 : zSpc := fun a g o v g_q => (o, v, g_q) = fn179 [a.getD 0 0] g
noncomputable def fn180 (x : List Int) (g0 : rHp) : zR :=
  zLet (rUp g0 7 0 1 0) fun g1 =>
  (0, 0, g1)
noncomputable def sn180 : zSpc := fun a g o v g_q => (o, v, g_q) = fn180 [] g
noncomputable def fn181 (x : List Int) (g0 : rHp) : zR :=
  zLet (x.getD 0 0) fun n0 =>
  zLet (g0 7 0 1) fun n1 =>
  if n1 ≥ 200 then
    (0, 0, g0)
  else
    zLet (zF1 .i2b n0) fun n2 =>
    zLet (rUp g0 39 0 n1 n2) fun g1 =>
    zLet (rUp g1 7 0 1 (n1 + 1)) fun g2 =>
    (0, 0, g2)
noncomputable def sn181 : zSpc := fun a g o v g_q => (o, v, g_q) = fn181 [a.getD 0 0] g
noncomputable def fn182 (x : List Int) (g0 : rHp) : zR :=
  zLet (x.getD 0 0) fun n0 =>
  if n0 > 26 then
    if n0 > 36 then
      (0, 95, g0)
    else
      (0, n0 + 21, g0)
  else
    (0, n0 + 96, g0)
noncomputable def sn182 : zSpc := fun a g o v g_q => (o, v, g_q) = fn182 [a.getD 0 0] g
noncomputable def dn183 (x : List Int) (g0 : rHp) : zSt :=
  zLet (x.getD 0 0) fun n0 =>
  .inl (0, [n0, 1, 1], g0)
noncomputable def en183 (g0 : rHp) (s : Nat × List Int × rHp) : zSt :=
  if s.1 = 0 then
    zLet s.2.2 fun g1 =>
    zLet (s.2.1.getD 0 0) fun n0 =>
    zLet (s.2.1.getD 1 0) fun n2 =>
    zLet (s.2.1.getD 2 0) fun n3 =>
    if n2 ≥ 12 then
      .inl (1, [n0, n0, n3], g1)
    else
      zLet (zF2 .ldiv n0 38) fun n4 =>
      if n3 > n4 then
        .inl (1, [n0, n0, n3], g1)
      else
        zLet (zF2 .lmul n3 38) fun n5 =>
        .inl (0, [n0, n2 + 1, n5], g1)
  else if s.1 = 1 then
    zLet s.2.2 fun g1 =>
    zLet (s.2.1.getD 0 0) fun n0 =>
    zLet (s.2.1.getD 1 0) fun n2 =>
    zLet (s.2.1.getD 2 0) fun n3 =>
    if n3 ≤ 0 then
      .inr (0, 0, g1)
    else
      zLet (zF2 .ldiv n2 n3) fun n5 =>
      zLet (zF1 .l2i n5) fun n6 =>
      zLet (fn182 [n6] g1) fun p1 =>
      zLet p1.2.2 fun g2 =>
      zLet (p1.2.1) fun n7 =>
      zLet (fn181 [n7] g2) fun p2 =>
      zLet p2.2.2 fun g3 =>
      zLet (zF2 .lrem n2 n3) fun n9 =>
      zLet (n3 / 38) fun n10 =>
      .inl (1, [n0, n9, n10], g3)
  else .inr (0, 0, g0)
noncomputable def fn183 (x : List Int) (g : rHp) : zR := zGoo (en183 g) (dn183 x g)
noncomputable def sn183 : zSpc := fun a g o v g_q => (o, v, g_q) = fn183 [a.getD 0 0] g
noncomputable def pl183 : Nat → List Int → List Int
  | 0, vs => [vs.getD 0 0, vs.getD 2 0, vs.getD 3 0]
  | 1, vs => [vs.getD 0 0, vs.getD 2 0, vs.getD 3 0]
  | _, _ => []
noncomputable def jn183 : List Int → rHp → Nat → List Int → rHp → Prop := fun a g i vs g1 => fn183 [a.getD 0 0] g = zLoop (en183 g) (i, pl183 i vs, g1)
noncomputable def dn184 (x : List Int) (g0 : rHp) : zSt :=
  zLet (x.getD 0 0) fun n0 =>
  if n0 ≥ 0 then
    .inl (0, [n0, 0, 1, n0], g0)
  else
    zLet (fn181 [45] g0) fun p0 =>
    zLet p0.2.2 fun g1 =>
    zLet (zF1 .lneg n0) fun n3 =>
    .inl (0, [n0, 0, 1, n3], g1)
noncomputable def en184 (g0 : rHp) (s : Nat × List Int × rHp) : zSt :=
  if s.1 = 0 then
    zLet s.2.2 fun g1 =>
    zLet (s.2.1.getD 0 0) fun n0 =>
    zLet (s.2.1.getD 1 0) fun n2 =>
    zLet (s.2.1.getD 2 0) fun n3 =>
    zLet (s.2.1.getD 3 0) fun n4 =>
    if n2 ≥ 18 then
      .inl (1, [n0, n2, n3, n4], g1)
    else
      zLet (zF2 .ldiv n4 10) fun n6 =>
      if n3 > n6 then
        .inl (1, [n0, n2, n3, n4], g1)
      else
        zLet (zF2 .lmul n3 10) fun n7 =>
        .inl (0, [n0, n2 + 1, n7, n4], g1)
  else if s.1 = 1 then
    zLet s.2.2 fun g1 =>
    zLet (s.2.1.getD 0 0) fun n0 =>
    zLet (s.2.1.getD 1 0) fun n2 =>
    zLet (s.2.1.getD 2 0) fun n3 =>
    zLet (s.2.1.getD 3 0) fun n4 =>
    if n3 ≤ 0 then
      .inr (0, 0, g1)
    else
      zLet (zF2 .ldiv n4 n3) fun n6 =>
      zLet (zF1 .l2i n6) fun n7 =>
      zLet (zF2 .iadd 48 n7) fun n8 =>
      zLet (fn181 [n8] g1) fun p1 =>
      zLet p1.2.2 fun g2 =>
      zLet (zF2 .lrem n4 n3) fun n10 =>
      zLet (n3 / 10) fun n11 =>
      .inl (1, [n0, n2, n11, n10], g2)
  else .inr (0, 0, g0)
noncomputable def fn184 (x : List Int) (g : rHp) : zR := zGoo (en184 g) (dn184 x g)
noncomputable def sn184 : zSpc := fun a g o v g_q => (o, v, g_q) = fn184 [a.getD 0 0] g
noncomputable def pl184 : Nat → List Int → List Int
  | 0, vs => [vs.getD 0 0, vs.getD 2 0, vs.getD 3 0, vs.getD 4 0]
  | 1, vs => [vs.getD 0 0, vs.getD 2 0, vs.getD 3 0, vs.getD 4 0]
  | _, _ => []
noncomputable def jn184 : List Int → rHp → Nat → List Int → rHp → Prop := fun a g i vs g1 => fn184 [a.getD 0 0] g = zLoop (en184 g) (i, pl184 i vs, g1)
noncomputable def dn185 (x : List Int) (g0 : rHp) : zSt :=
  zLet (x.getD 0 0) fun n0 =>
  zLet (fn171 [n0] g0) fun p0 =>
  zLet p0.2.2 fun g1 =>
  if p0.1 = 0 then
    zLet (g0 28 0 n0) fun n4 =>
    zLet (fn180 [] g1) fun p1 =>
    zLet p1.2.2 fun g2 =>
    zLet (g0 16 0 n4) fun n5 =>
    zLet (fn183 [n5] g2) fun p2 =>
    zLet p2.2.2 fun g3 =>
    .inl (0, [n0, 0, n4], g3)
  else
    if p0.1 = 1 then
      .inr (1, 0, g1)
    else
      .inr (5, 0, g1)
noncomputable def en185 (g0 : rHp) (s : Nat × List Int × rHp) : zSt :=
  if s.1 = 0 then
    zLet s.2.2 fun g1 =>
    zLet (s.2.1.getD 0 0) fun n0 =>
    zLet (s.2.1.getD 1 0) fun n4 =>
    zLet (s.2.1.getD 2 0) fun n5 =>
    zLet (g0 17 0 n5) fun n7 =>
    if n4 ≥ n7 then
      zLet (fn181 [41] g1) fun p1 =>
      zLet p1.2.2 fun g2 =>
      zLet (g2 7 0 1) fun n8 =>
      .inr (0, n8, g2)
    else
      if n4 ≠ 0 then
        zLet (fn181 [44] g1) fun p1 =>
        zLet p1.2.2 fun g2 =>
        zLet (g0 27 0 (n4 + 4 * n0)) fun n9 =>
        zLet (fn172 [n9] g2) fun p2 =>
        zLet p2.2.2 fun g3 =>
        if 1 ≤ p2.2.1 then
          zLet (fn184 [n9] g3) fun p3 =>
          zLet p3.2.2 fun g4 =>
          .inl (0, [n0, n4 + 1, n5], g4)
        else
          zLet (zF1 .l2i (n9 + (-1099511627776))) fun n10 =>
          zLet (fn93 [n10] g3) fun p3 =>
          zLet p3.2.2 fun g4 =>
          zLet (p3.2.1) fun n11 =>
          zLet (fn183 [n11] g4) fun p4 =>
          zLet p4.2.2 fun g5 =>
          .inl (0, [n0, n4 + 1, n5], g5)
      else
        zLet (fn181 [40] g1) fun p1 =>
        zLet p1.2.2 fun g2 =>
        zLet (g0 27 0 (n4 + 4 * n0)) fun n9 =>
        zLet (fn172 [n9] g2) fun p2 =>
        zLet p2.2.2 fun g3 =>
        if 1 ≤ p2.2.1 then
          zLet (fn184 [n9] g3) fun p3 =>
          zLet p3.2.2 fun g4 =>
          .inl (0, [n0, n4 + 1, n5], g4)
        else
          zLet (zF1 .l2i (n9 + (-1099511627776))) fun n10 =>
          zLet (fn93 [n10] g3) fun p3 =>
          zLet p3.2.2 fun g4 =>
          zLet (p3.2.1) fun n11 =>
          zLet (fn183 [n11] g4) fun p4 =>
          zLet p4.2.2 fun g5 =>
          .inl (0, [n0, n4 + 1, n5], g5)
  else .inr (0, 0, g0)
noncomputable def fn185 (x : List Int) (g : rHp) : zR := zGoo (en185 g) (dn185 x g)
noncomputable def sn185 : zSpc := fun a g o v g_q => (o, v, g_q) = fn185 [a.getD 0 0] g
noncomputable def pl185 : Nat → List Int → List Int
  | 0, vs => [vs.getD 0 0, vs.getD 4 0, vs.getD 5 0]
  | _, _ => []
noncomputable def jn185 : List Int → rHp → Nat → List Int → rHp → Prop := fun a g i vs g1 => fn185 [a.getD 0 0] g = zLoop (en185 g) (i, pl185 i vs, g1)
noncomputable def fn186 (x : List Int) (g0 : rHp) : zR :=
  zLet (fn95 [(-1)] g0) fun p0 =>
  zLet p0.2.2 fun g1 =>
  (0, 0, g1)
noncomputable def sn186 : zSpc := fun a g o v g_q => (o, v, g_q) = fn186 [] g
noncomputable def fn187 (x : List Int) (g0 : rHp) : zR :=
  zLet (x.getD 0 0) fun n0 =>
  zLet (zF2 .lmul n0 ((-7046029254386353131))) fun n1 =>
  zLet (zF2 .lushr n1 58) fun n2 =>
  zLet (g0 47 0 n2) fun n3 =>
  (0, n3, g0)
noncomputable def sn187 : zSpc := fun a g o v g_q => (o, v, g_q) = fn187 [a.getD 0 0] g
noncomputable def fn188 (x : List Int) (g0 : rHp) : zR :=
  zLet (x.getD 0 0) fun n0 =>
  if n0 < 0 then
    (0, (-1), g0)
  else
    if n0 ≥ 2000 then
      (0, (-1), g0)
    else
      zLet (g0 49 0 n0) fun n1 =>
      (0, n1, g0)
noncomputable def sn188 : zSpc := fun a g o v g_q => (o, v, g_q) = fn188 [a.getD 0 0] g
noncomputable def fn189 (x : List Int) (g0 : rHp) : zR :=
  zLet (x.getD 0 0) fun n0 =>
  zLet (x.getD 1 0) fun n1 =>
  zLet (zF2 .lmul n0 ((-7046029254386353131))) fun n2 =>
  zLet (zF2 .lushr n2 58) fun n3 =>
  if n1 < 0 then
    (0, 0, g0)
  else
    if n1 < 2000 then
      zLet (rUp g0 49 0 n1 ((-1))) fun g1 =>
      zLet (g0 47 0 n3) fun n4 =>
      if n4 ≥ 0 then
        zLet (g0 48 0 n3) fun n5 =>
        zLet (rUp g1 49 0 n5 n1) fun g2 =>
        zLet (rUp g2 48 0 n3 n1) fun g3 =>
        (0, 0, g3)
      else
        zLet (rUp g1 47 0 n3 n1) fun g2 =>
        zLet (rUp g2 48 0 n3 n1) fun g3 =>
        (0, 0, g3)
    else
      (0, 0, g0)
noncomputable def sn189 : zSpc := fun a g o v g_q => (o, v, g_q) = fn189 [a.getD 0 0, a.getD 1 0] g
noncomputable def fn190 (x : List Int) (g0 : rHp) : zR :=
  zLet (fn96 [(-1)] g0) fun p0 =>
  zLet p0.2.2 fun g1 =>
  (0, 0, g1)
noncomputable def sn190 : zSpc := fun a g o v g_q => (o, v, g_q) = fn190 [] g
noncomputable def fn191 (x : List Int) (g0 : rHp) : zR :=
  zLet (x.getD 0 0) fun n0 =>
  zLet (zF2 .lmul n0 ((-7046029254386353131))) fun n1 =>
  zLet (zF2 .lushr n1 52) fun n2 =>
  zLet (g0 50 0 n2) fun n3 =>
  (0, n3, g0)
noncomputable def sn191 : zSpc := fun a g o v g_q => (o, v, g_q) = fn191 [a.getD 0 0] g
noncomputable def fn192 (x : List Int) (g0 : rHp) : zR :=
  zLet (x.getD 0 0) fun n0 =>
  if n0 < 0 then
    (0, (-1), g0)
  else
    if n0 ≥ 8000 then
      (0, (-1), g0)
    else
      zLet (g0 52 0 n0) fun n1 =>
      (0, n1, g0)
noncomputable def sn192 : zSpc := fun a g o v g_q => (o, v, g_q) = fn192 [a.getD 0 0] g
noncomputable def fn193 (x : List Int) (g0 : rHp) : zR :=
  zLet (x.getD 0 0) fun n0 =>
  zLet (x.getD 1 0) fun n1 =>
  zLet (zF2 .lmul n0 ((-7046029254386353131))) fun n2 =>
  zLet (zF2 .lushr n2 52) fun n3 =>
  if n1 < 0 then
    (0, 0, g0)
  else
    if n1 < 8000 then
      zLet (rUp g0 52 0 n1 ((-1))) fun g1 =>
      zLet (g0 50 0 n3) fun n4 =>
      if n4 ≥ 0 then
        zLet (g0 51 0 n3) fun n5 =>
        zLet (rUp g1 52 0 n5 n1) fun g2 =>
        zLet (rUp g2 51 0 n3 n1) fun g3 =>
        (0, 0, g3)
      else
        zLet (rUp g1 50 0 n3 n1) fun g2 =>
        zLet (rUp g2 51 0 n3 n1) fun g3 =>
        (0, 0, g3)
    else
      (0, 0, g0)
noncomputable def sn193 : zSpc := fun a g o v g_q => (o, v, g_q) = fn193 [a.getD 0 0, a.getD 1 0] g
noncomputable def fn194 (x : List Int) (g0 : rHp) : zR :=
  zLet (fn97 [(-1)] g0) fun p0 =>
  zLet p0.2.2 fun g1 =>
  (0, 0, g1)
noncomputable def sn194 : zSpc := fun a g o v g_q => (o, v, g_q) = fn194 [] g
noncomputable def fn195 (x : List Int) (g0 : rHp) : zR :=
  zLet (x.getD 0 0) fun n0 =>
  zLet (zF2 .lmul n0 ((-7046029254386353131))) fun n1 =>
  zLet (zF2 .lushr n1 53) fun n2 =>
  zLet (g0 53 0 n2) fun n3 =>
  (0, n3, g0)
noncomputable def sn195 : zSpc := fun a g o v g_q => (o, v, g_q) = fn195 [a.getD 0 0] g
noncomputable def fn196 (x : List Int) (g0 : rHp) : zR :=
  zLet (x.getD 0 0) fun n0 =>
  if n0 < 0 then
    (0, (-1), g0)
  else
    if n0 ≥ 2000 then
      (0, (-1), g0)
    else
      zLet (g0 55 0 n0) fun n1 =>
      (0, n1, g0)
noncomputable def sn196 : zSpc := fun a g o v g_q => (o, v, g_q) = fn196 [a.getD 0 0] g
noncomputable def fn197 (x : List Int) (g0 : rHp) : zR :=
  zLet (x.getD 0 0) fun n0 =>
  zLet (x.getD 1 0) fun n1 =>
  zLet (zF2 .lmul n0 ((-7046029254386353131))) fun n2 =>
  zLet (zF2 .lushr n2 53) fun n3 =>
  if n1 < 0 then
    (0, 0, g0)
  else
    if n1 < 2000 then
      zLet (rUp g0 55 0 n1 ((-1))) fun g1 =>
      zLet (g0 53 0 n3) fun n4 =>
      if n4 ≥ 0 then
        zLet (g0 54 0 n3) fun n5 =>
        zLet (rUp g1 55 0 n5 n1) fun g2 =>
        zLet (rUp g2 54 0 n3 n1) fun g3 =>
        (0, 0, g3)
      else
        zLet (rUp g1 53 0 n3 n1) fun g2 =>
        zLet (rUp g2 54 0 n3 n1) fun g3 =>
        (0, 0, g3)
    else
      (0, 0, g0)
noncomputable def sn197 : zSpc := fun a g o v g_q => (o, v, g_q) = fn197 [a.getD 0 0, a.getD 1 0] g
noncomputable def fn198 (x : List Int) (g0 : rHp) : zR :=
  zLet (fn98 [(-1)] g0) fun p0 =>
  zLet p0.2.2 fun g1 =>
  (0, 0, g1)
noncomputable def sn198 : zSpc := fun a g o v g_q => (o, v, g_q) = fn198 [] g
noncomputable def fn199 (x : List Int) (g0 : rHp) : zR :=
  zLet (x.getD 0 0) fun n0 =>
  zLet (zF2 .lmul n0 ((-7046029254386353131))) fun n1 =>
  zLet (zF2 .lushr n1 55) fun n2 =>
  zLet (g0 56 0 n2) fun n3 =>
  (0, n3, g0)
noncomputable def sn199 : zSpc := fun a g o v g_q => (o, v, g_q) = fn199 [a.getD 0 0] g
noncomputable def fn200 (x : List Int) (g0 : rHp) : zR :=
  zLet (x.getD 0 0) fun n0 =>
  if n0 < 0 then
    (0, (-1), g0)
  else
    if n0 ≥ 2000 then
      (0, (-1), g0)
    else
      zLet (g0 58 0 n0) fun n1 =>
      (0, n1, g0)
noncomputable def sn200 : zSpc := fun a g o v g_q => (o, v, g_q) = fn200 [a.getD 0 0] g
noncomputable def fn201 (x : List Int) (g0 : rHp) : zR :=
  zLet (x.getD 0 0) fun n0 =>
  zLet (x.getD 1 0) fun n1 =>
  zLet (zF2 .lmul n0 ((-7046029254386353131))) fun n2 =>
  zLet (zF2 .lushr n2 55) fun n3 =>
  if n1 < 0 then
    (0, 0, g0)
  else
    if n1 < 2000 then
      zLet (rUp g0 58 0 n1 ((-1))) fun g1 =>
      zLet (g0 56 0 n3) fun n4 =>
      if n4 ≥ 0 then
        zLet (g0 57 0 n3) fun n5 =>
        zLet (rUp g1 58 0 n5 n1) fun g2 =>
        zLet (rUp g2 57 0 n3 n1) fun g3 =>
        (0, 0, g3)
      else
        zLet (rUp g1 56 0 n3 n1) fun g2 =>
        zLet (rUp g2 57 0 n3 n1) fun g3 =>
        (0, 0, g3)
    else
      (0, 0, g0)
noncomputable def sn201 : zSpc := fun a g o v g_q => (o, v, g_q) = fn201 [a.getD 0 0, a.getD 1 0] g
noncomputable def fn202 (x : List Int) (g0 : rHp) : zR :=
  zLet (rUp g0 4 0 7 0) fun g1 =>
  zLet (fn186 [] g1) fun p1 =>
  zLet p1.2.2 fun g2 =>
  zLet (fn190 [] g2) fun p2 =>
  zLet p2.2.2 fun g3 =>
  zLet (fn194 [] g3) fun p3 =>
  zLet p3.2.2 fun g4 =>
  (0, 0, g4)
noncomputable def sn202 : zSpc := fun a g o v g_q => (o, v, g_q) = fn202 [] g
noncomputable def dn203 (x : List Int) (g0 : rHp) : zSt :=
  zLet (x.getD 0 0) fun n0 =>
  .inl (0, [n0, 0, n0], g0)
noncomputable def en203 (g0 : rHp) (s : Nat × List Int × rHp) : zSt :=
  if s.1 = 0 then
    zLet s.2.2 fun g1 =>
    zLet (s.2.1.getD 0 0) fun n0 =>
    zLet (s.2.1.getD 1 0) fun n1 =>
    zLet (s.2.1.getD 2 0) fun n2 =>
    if n1 ≥ 4 then
      .inr (0, n2, g1)
    else
      zLet (zF2 .lmul n2 1000003) fun n3 =>
      zLet (g0 33 0 n1) fun n4 =>
      zLet (zF2 .ladd n3 n4) fun n5 =>
      .inl (0, [n0, n1 + 1, n5], g1)
  else .inr (0, 0, g0)
noncomputable def fn203 (x : List Int) (g : rHp) : zR := zGoo (en203 g) (dn203 x g)
noncomputable def sn203 : zSpc := fun a g o v g_q => (o, v, g_q) = fn203 [a.getD 0 0] g
noncomputable def pl203 : Nat → List Int → List Int
  | 0, vs => [vs.getD 0 0, vs.getD 1 0, vs.getD 2 0]
  | _, _ => []
noncomputable def jn203 : List Int → rHp → Nat → List Int → rHp → Prop := fun a g i vs g1 => fn203 [a.getD 0 0] g = zLoop (en203 g) (i, pl203 i vs, g1)
noncomputable def fn204 (x : List Int) (g0 : rHp) : zR :=
  zLet (x.getD 0 0) fun n0 =>
  zLet (x.getD 1 0) fun n1 =>
  zLet (x.getD 2 0) fun n2 =>
  zLet (zF2 .lmul n2 1000003) fun n3 =>
  zLet (zF2 .imul n0 4) fun n4 =>
  zLet (zF2 .ladd n3 n4) fun n5 =>
  zLet (zF2 .ladd n5 n1) fun n6 =>
  (0, n6, g0)
noncomputable def sn204 : zSpc := fun a g o v g_q => (o, v, g_q) = fn204 [a.getD 0 0, a.getD 1 0, a.getD 2 0] g
noncomputable def dn205 (x : List Int) (g0 : rHp) : zSt :=
  zLet (x.getD 0 0) fun n0 =>
  .inl (0, [n0, 0], g0)
noncomputable def en205 (g0 : rHp) (s : Nat × List Int × rHp) : zSt :=
  if s.1 = 0 then
    zLet s.2.2 fun g1 =>
    zLet (s.2.1.getD 0 0) fun n0 =>
    zLet (s.2.1.getD 1 0) fun n1 =>
    if n1 ≥ 4 then
      .inr (0, 1, g1)
    else
      zLet (g0 27 0 (n1 + 4 * n0)) fun n2 =>
      zLet (g0 33 0 n1) fun n3 =>
      if n2 = n3 then
        .inl (0, [n0, n1 + 1], g1)
      else
        .inr (0, 0, g1)
  else .inr (0, 0, g0)
noncomputable def fn205 (x : List Int) (g : rHp) : zR := zGoo (en205 g) (dn205 x g)
noncomputable def sn205 : zSpc := fun a g o v g_q => (o, v, g_q) = fn205 [a.getD 0 0] g
noncomputable def pl205 : Nat → List Int → List Int
  | 0, vs => [vs.getD 0 0, vs.getD 1 0]
  | _, _ => []
noncomputable def jn205 : List Int → rHp → Nat → List Int → rHp → Prop := fun a g i vs g1 => fn205 [a.getD 0 0] g = zLoop (en205 g) (i, pl205 i vs, g1)
noncomputable def dn206 (x : List Int) (g0 : rHp) : zSt :=
  zLet (x.getD 0 0) fun n0 =>
  zLet (fn203 [n0] g0) fun p0 =>
  zLet p0.2.2 fun g1 =>
  zLet (p0.2.1) fun n1 =>
  zLet (fn195 [n1] g1) fun p1 =>
  zLet p1.2.2 fun g2 =>
  zLet (p1.2.1) fun n2 =>
  .inl (0, [n0, 0, n2], g2)
noncomputable def en206 (g0 : rHp) (s : Nat × List Int × rHp) : zSt :=
  if s.1 = 0 then
    zLet s.2.2 fun g1 =>
    zLet (s.2.1.getD 0 0) fun n0 =>
    zLet (s.2.1.getD 1 0) fun n1 =>
    zLet (s.2.1.getD 2 0) fun n2 =>
    if n2 < 0 then
      .inr (0, (-1), g1)
    else
      if n1 ≥ 2000 then
        .inr (0, (-1), g1)
      else
        zLet (g0 28 0 n2) fun n3 =>
        if n3 ≠ n0 then
          zLet (fn196 [n2] g1) fun p1 =>
          zLet p1.2.2 fun g2 =>
          zLet (p1.2.1) fun n4 =>
          .inl (0, [n0, n1 + 1, n4], g2)
        else
          zLet (fn205 [n2] g1) fun p1 =>
          zLet p1.2.2 fun g2 =>
          if 1 ≤ p1.2.1 then
            .inr (0, n2, g2)
          else
            zLet (fn196 [n2] g2) fun p2 =>
            zLet p2.2.2 fun g3 =>
            zLet (p2.2.1) fun n4 =>
            .inl (0, [n0, n1 + 1, n4], g3)
  else .inr (0, 0, g0)
noncomputable def fn206 (x : List Int) (g : rHp) : zR := zGoo (en206 g) (dn206 x g)
noncomputable def sn206 : zSpc := fun a g o v g_q => (o, v, g_q) = fn206 [a.getD 0 0] g
noncomputable def pl206 : Nat → List Int → List Int
  | 0, vs => [vs.getD 0 0, vs.getD 1 0, vs.getD 2 0]
  | _, _ => []
noncomputable def jn206 : List Int → rHp → Nat → List Int → rHp → Prop := fun a g i vs g1 => fn206 [a.getD 0 0] g = zLoop (en206 g) (i, pl206 i vs, g1)
noncomputable def dn207 (x : List Int) (g0 : rHp) : zSt :=
  zLet (x.getD 0 0) fun n0 =>
  zLet (x.getD 1 0) fun n1 =>
  zLet (x.getD 2 0) fun n2 =>
  zLet (g0 4 0 7) fun n3 =>
  if n3 < 2000 then
    zLet (rUp g0 28 0 n3 n0) fun g1 =>
    zLet (rUp g1 29 0 n3 n1) fun g2 =>
    zLet (rUp g2 30 0 n3 n2) fun g3 =>
    zLet (rUp g3 32 0 n3 0) fun g4 =>
    zLet (fn189 [n0, n3] g4) fun p4 =>
    zLet p4.2.2 fun g5 =>
    zLet (fn203 [n0] g5) fun p5 =>
    zLet p5.2.2 fun g6 =>
    zLet (p5.2.1) fun n4 =>
    zLet (fn197 [n4, n3] g6) fun p6 =>
    zLet p6.2.2 fun g7 =>
    .inl (0, [n0, n1, n2, 0], g7)
  else
    .inr (0, 0, g0)
noncomputable def en207 (g0 : rHp) (s : Nat × List Int × rHp) : zSt :=
  if s.1 = 0 then
    zLet s.2.2 fun g1 =>
    zLet (s.2.1.getD 0 0) fun n0 =>
    zLet (s.2.1.getD 1 0) fun n1 =>
    zLet (s.2.1.getD 2 0) fun n2 =>
    zLet (s.2.1.getD 3 0) fun n4 =>
    zLet (g0 4 0 7) fun n3 =>
    if n4 ≥ 4 then
      zLet (rUp g1 4 0 7 (n3 + 1)) fun g2 =>
      .inr (0, 1, g2)
    else
      zLet (g0 33 0 n4) fun n5 =>
      zLet (rUp g1 27 0 (n4 + 4 * n3) n5) fun g2 =>
      zLet (fn204 [n0, n4, n5] g2) fun p2 =>
      zLet p2.2.2 fun g3 =>
      zLet (p2.2.1) fun n6 =>
      zLet (fn193 [n6, n4 + 4 * n3] g3) fun p3 =>
      zLet p3.2.2 fun g4 =>
      .inl (0, [n0, n1, n2, n4 + 1], g4)
  else .inr (0, 0, g0)
noncomputable def fn207 (x : List Int) (g : rHp) : zR := zGoo (en207 g) (dn207 x g)
noncomputable def sn207 : zSpc := fun a g o v g_q => (o, v, g_q) = fn207 [a.getD 0 0, a.getD 1 0, a.getD 2 0] g
noncomputable def pl207 : Nat → List Int → List Int
  | 0, vs => [vs.getD 0 0, vs.getD 1 0, vs.getD 2 0, vs.getD 4 0]
  | _, _ => []
noncomputable def jn207 : List Int → rHp → Nat → List Int → rHp → Prop := fun a g i vs g1 => fn207 [a.getD 0 0, a.getD 1 0, a.getD 2 0] g = zLoop (en207 g) (i, pl207 i vs, g1)
noncomputable def dn208 (x : List Int) (g0 : rHp) : zSt :=
  zLet (x.getD 0 0) fun n0 =>
  zLet (x.getD 1 0) fun n1 =>
  if n1 > 0 then
    .inl (0, [n0, n1, n1], g0)
  else
    zLet (fn187 [n0] g0) fun p0 =>
    zLet p0.2.2 fun g1 =>
    zLet (p0.2.1) fun n3 =>
    .inr (0, n3, g1)
noncomputable def en208 (g0 : rHp) (s : Nat × List Int × rHp) : zSt :=
  if s.1 = 0 then
    zLet s.2.2 fun g1 =>
    zLet (s.2.1.getD 0 0) fun n0 =>
    zLet (s.2.1.getD 1 0) fun n1 =>
    zLet (s.2.1.getD 2 0) fun n3 =>
    zLet (g0 4 0 7) fun n2 =>
    if n3 ≥ n2 then
      .inr (0, (-1), g1)
    else
      zLet (g0 28 0 n3) fun n4 =>
      if n4 ≠ n0 then
        .inl (0, [n0, n1, n3 + 1], g1)
      else
        .inr (0, n3, g1)
  else .inr (0, 0, g0)
noncomputable def fn208 (x : List Int) (g : rHp) : zR := zGoo (en208 g) (dn208 x g)
noncomputable def sn208 : zSpc := fun a g o v g_q => (o, v, g_q) = fn208 [a.getD 0 0, a.getD 1 0] g
noncomputable def pl208 : Nat → List Int → List Int
  | 0, vs => [vs.getD 0 0, vs.getD 1 0, vs.getD 3 0]
  | _, _ => []
noncomputable def jn208 : List Int → rHp → Nat → List Int → rHp → Prop := fun a g i vs g1 => fn208 [a.getD 0 0, a.getD 1 0] g = zLoop (en208 g) (i, pl208 i vs, g1)
noncomputable def fn209 (x : List Int) (g0 : rHp) : zR :=
  zLet (x.getD 0 0) fun n0 =>
  zLet (fn188 [n0] g0) fun p0 =>
  zLet p0.2.2 fun g1 =>
  zLet (p0.2.1) fun n1 =>
  (0, n1, g1)
noncomputable def sn209 : zSpc := fun a g o v g_q => (o, v, g_q) = fn209 [a.getD 0 0] g
noncomputable def dn210 (x : List Int) (g0 : rHp) : zSt :=
  zLet (x.getD 0 0) fun n0 =>
  zLet (x.getD 1 0) fun n1 =>
  .inl (0, [n0, n1, 0, n0], g0)
noncomputable def en210 (g0 : rHp) (s : Nat × List Int × rHp) : zSt :=
  if s.1 = 0 then
    zLet s.2.2 fun g1 =>
    zLet (s.2.1.getD 0 0) fun n0 =>
    zLet (s.2.1.getD 1 0) fun n1 =>
    zLet (s.2.1.getD 2 0) fun n2 =>
    zLet (s.2.1.getD 3 0) fun n3 =>
    if n3 < 0 then
      .inr (0, (-1), g1)
    else
      if n2 ≥ 8000 then
        .inr (0, (-1), g1)
      else
        zLet (zF2 .irem n3 4) fun n4 =>
        if n4 ≠ n1 then
          zLet (fn192 [n3] g1) fun p1 =>
          zLet p1.2.2 fun g2 =>
          zLet (p1.2.1) fun n5 =>
          .inl (0, [n0, n1, n2 + 1, n5], g2)
        else
          zLet (n3 / 4) fun n5 =>
          .inr (0, n5, g1)
  else .inr (0, 0, g0)
noncomputable def fn210 (x : List Int) (g : rHp) : zR := zGoo (en210 g) (dn210 x g)
noncomputable def sn210 : zSpc := fun a g o v g_q => (o, v, g_q) = fn210 [a.getD 0 0, a.getD 1 0] g
noncomputable def pl210 : Nat → List Int → List Int
  | 0, vs => [vs.getD 0 0, vs.getD 1 0, vs.getD 2 0, vs.getD 3 0]
  | _, _ => []
noncomputable def jn210 : List Int → rHp → Nat → List Int → rHp → Prop := fun a g i vs g1 => fn210 [a.getD 0 0, a.getD 1 0] g = zLoop (en210 g) (i, pl210 i vs, g1)
noncomputable def fn211 (x : List Int) (g0 : rHp) : zR :=
  zLet (x.getD 0 0) fun n0 =>
  zLet (x.getD 1 0) fun n1 =>
  zLet (x.getD 2 0) fun n2 =>
  zLet (fn204 [n0, n1, n2] g0) fun p0 =>
  zLet p0.2.2 fun g1 =>
  zLet (p0.2.1) fun n3 =>
  zLet (fn191 [n3] g1) fun p1 =>
  zLet p1.2.2 fun g2 =>
  zLet (p1.2.1) fun n4 =>
  zLet (fn210 [n4, n1] g2) fun p2 =>
  zLet p2.2.2 fun g3 =>
  zLet (p2.2.1) fun n5 =>
  (0, n5, g3)
noncomputable def sn211 : zSpc := fun a g o v g_q => (o, v, g_q) = fn211 [a.getD 0 0, a.getD 1 0, a.getD 2 0] g
noncomputable def fn212 (x : List Int) (g0 : rHp) : zR :=
  zLet (x.getD 0 0) fun n0 =>
  zLet (x.getD 1 0) fun n1 =>
  zLet (fn192 [n1 + 4 * n0] g0) fun p0 =>
  zLet p0.2.2 fun g1 =>
  zLet (p0.2.1) fun n2 =>
  zLet (fn210 [n2, n1] g1) fun p1 =>
  zLet p1.2.2 fun g2 =>
  zLet (p1.2.1) fun n3 =>
  (0, n3, g2)
noncomputable def sn212 : zSpc := fun a g o v g_q => (o, v, g_q) = fn212 [a.getD 0 0, a.getD 1 0] g
noncomputable def fn213 (x : List Int) (g0 : rHp) : zR :=
  zLet (rUp g0 5 0 3 0) fun g1 =>
  zLet (fn198 [] g1) fun p1 =>
  zLet p1.2.2 fun g2 =>
  (0, 0, g2)
noncomputable def sn213 : zSpc := fun a g o v g_q => (o, v, g_q) = fn213 [] g
noncomputable def dn214 (x : List Int) (g0 : rHp) : zSt :=
  .inl (0, [0, 0], g0)
noncomputable def en214 (g0 : rHp) (s : Nat × List Int × rHp) : zSt :=
  if s.1 = 0 then
    zLet s.2.2 fun g1 =>
    zLet (s.2.1.getD 0 0) fun n0 =>
    zLet (s.2.1.getD 1 0) fun n1 =>
    if n0 ≥ 4 then
      .inr (0, n1, g1)
    else
      zLet (zF2 .lmul n1 1000003) fun n2 =>
      zLet (g0 33 0 n0) fun n3 =>
      zLet (zF2 .ladd n2 n3) fun n4 =>
      .inl (0, [n0 + 1, n4], g1)
  else .inr (0, 0, g0)
noncomputable def fn214 (x : List Int) (g : rHp) : zR := zGoo (en214 g) (dn214 x g)
noncomputable def sn214 : zSpc := fun a g o v g_q => (o, v, g_q) = fn214 [] g
noncomputable def pl214 : Nat → List Int → List Int
  | 0, vs => [vs.getD 0 0, vs.getD 1 0]
  | _, _ => []
noncomputable def jn214 : List Int → rHp → Nat → List Int → rHp → Prop := fun a g i vs g1 => fn214 [] g = zLoop (en214 g) (i, pl214 i vs, g1)
noncomputable def dn215 (x : List Int) (g0 : rHp) : zSt :=
  zLet (x.getD 0 0) fun n0 =>
  .inl (0, [n0, 0], g0)
noncomputable def en215 (g0 : rHp) (s : Nat × List Int × rHp) : zSt :=
  if s.1 = 0 then
    zLet s.2.2 fun g1 =>
    zLet (s.2.1.getD 0 0) fun n0 =>
    zLet (s.2.1.getD 1 0) fun n1 =>
    if n1 ≥ 4 then
      .inr (0, 1, g1)
    else
      zLet (g0 34 0 (n1 + 4 * n0)) fun n2 =>
      zLet (g0 33 0 n1) fun n3 =>
      if n2 = n3 then
        .inl (0, [n0, n1 + 1], g1)
      else
        .inr (0, 0, g1)
  else .inr (0, 0, g0)
noncomputable def fn215 (x : List Int) (g : rHp) : zR := zGoo (en215 g) (dn215 x g)
noncomputable def sn215 : zSpc := fun a g o v g_q => (o, v, g_q) = fn215 [a.getD 0 0] g
noncomputable def pl215 : Nat → List Int → List Int
  | 0, vs => [vs.getD 0 0, vs.getD 1 0]
  | _, _ => []
noncomputable def jn215 : List Int → rHp → Nat → List Int → rHp → Prop := fun a g i vs g1 => fn215 [a.getD 0 0] g = zLoop (en215 g) (i, pl215 i vs, g1)
noncomputable def dn216 (x : List Int) (g0 : rHp) : zSt :=
  zLet (fn214 [] g0) fun p0 =>
  zLet p0.2.2 fun g1 =>
  zLet (p0.2.1) fun n1 =>
  zLet (fn199 [n1] g1) fun p1 =>
  zLet p1.2.2 fun g2 =>
  zLet (p1.2.1) fun n2 =>
  .inl (0, [0, n2, n1], g2)
noncomputable def en216 (g0 : rHp) (s : Nat × List Int × rHp) : zSt :=
  if s.1 = 0 then
    zLet s.2.2 fun g1 =>
    zLet (s.2.1.getD 0 0) fun n1 =>
    zLet (s.2.1.getD 1 0) fun n2 =>
    zLet (s.2.1.getD 2 0) fun n3 =>
    zLet (g0 5 0 3) fun n0 =>
    if n2 < 0 then
      if n0 < 2000 then
        zLet (zCpy g1 33 0 0 34 0 (4 * n0) 4) fun g2 =>
        zLet (rUp g2 35 0 n0 0) fun g3 =>
        zLet (rUp g3 36 0 n0 0) fun g4 =>
        zLet (fn201 [n3, n0] g4) fun p4 =>
        zLet p4.2.2 fun g5 =>
        zLet (rUp g5 5 0 3 (n0 + 1)) fun g6 =>
        .inr (0, n0, g6)
      else
        .inr (0, (-1), g1)
    else
      if n1 ≥ 2000 then
        if n0 < 2000 then
          zLet (zCpy g1 33 0 0 34 0 (4 * n0) 4) fun g2 =>
          zLet (rUp g2 35 0 n0 0) fun g3 =>
          zLet (rUp g3 36 0 n0 0) fun g4 =>
          zLet (fn201 [n3, n0] g4) fun p4 =>
          zLet p4.2.2 fun g5 =>
          zLet (rUp g5 5 0 3 (n0 + 1)) fun g6 =>
          .inr (0, n0, g6)
        else
          .inr (0, (-1), g1)
      else
        zLet (fn215 [n2] g1) fun p1 =>
        zLet p1.2.2 fun g2 =>
        if 1 ≤ p1.2.1 then
          .inr (0, n2, g2)
        else
          zLet (fn200 [n2] g2) fun p2 =>
          zLet p2.2.2 fun g3 =>
          zLet (p2.2.1) fun n4 =>
          .inl (0, [n1 + 1, n4, n3], g3)
  else .inr (0, 0, g0)
noncomputable def fn216 (x : List Int) (g : rHp) : zR := zGoo (en216 g) (dn216 x g)
noncomputable def sn216 : zSpc := fun a g o v g_q => (o, v, g_q) = fn216 [] g
noncomputable def pl216 : Nat → List Int → List Int
  | 0, vs => [vs.getD 1 0, vs.getD 2 0, vs.getD 3 0]
  | _, _ => []
noncomputable def jn216 : List Int → rHp → Nat → List Int → rHp → Prop := fun a g i vs g1 => fn216 [] g = zLoop (en216 g) (i, pl216 i vs, g1)
noncomputable def fn217 (x : List Int) (g0 : rHp) : zR :=
  zLet (x.getD 0 0) fun n0 =>
  zLet (g0 35 0 n0) fun n1 =>
  zLet (zF2 .iadd n1 1) fun n2 =>
  zLet (rUp g0 35 0 n0 n2) fun g1 =>
  zLet (rUp g1 36 0 n0 1) fun g2 =>
  (0, 0, g2)
noncomputable def sn217 : zSpc := fun a g o v g_q => (o, v, g_q) = fn217 [a.getD 0 0] g
noncomputable def fn218 (x : List Int) (g0 : rHp) : zR :=
  zLet (x.getD 0 0) fun n0 =>
  zLet (x.getD 1 0) fun n1 =>
  zLet (rUp g0 36 0 n0 1) fun g1 =>
  zLet (fn172 [n1] g1) fun p1 =>
  zLet p1.2.2 fun g2 =>
  if 1 ≤ p1.2.1 then
    zLet (g0 35 0 n0) fun n2 =>
    zLet (zF1 .l2i n1) fun n3 =>
    zLet (zF2 .iadd n2 n3) fun n4 =>
    zLet (rUp g2 35 0 n0 n4) fun g3 =>
    (0, 0, g3)
  else
    (0, 0, g2)
noncomputable def sn218 : zSpc := fun a g o v g_q => (o, v, g_q) = fn218 [a.getD 0 0, a.getD 1 0] g
noncomputable def fn219 (x : List Int) (g0 : rHp) : zR :=
  zLet (x.getD 0 0) fun n0 =>
  zLet (x.getD 1 0) fun n1 =>
  zLet (fn172 [n1] g0) fun p0 =>
  zLet p0.2.2 fun g1 =>
  if 1 ≤ p0.2.1 then
    zLet (g0 36 0 n0) fun n2 =>
    if n2 = 0 then
      zLet (zF1 .l2i n1) fun n3 =>
      zLet (rUp g1 35 0 n0 n3) fun g2 =>
      zLet (rUp g2 36 0 n0 1) fun g3 =>
      (0, 0, g3)
    else
      zLet (g0 35 0 n0) fun n3 =>
      zLet (zF1 .l2i n1) fun n4 =>
      zLet (fn100 [n3, n4] g1) fun p1 =>
      zLet p1.2.2 fun g2 =>
      if 0 ≤ n4 + -n3 then
        zLet (rUp g2 35 0 n0 n3) fun g3 =>
        zLet (rUp g3 36 0 n0 1) fun g4 =>
        (0, 0, g4)
      else
        zLet (rUp g2 35 0 n0 n4) fun g3 =>
        zLet (rUp g3 36 0 n0 1) fun g4 =>
        (0, 0, g4)
  else
    (0, 0, g1)
noncomputable def sn219 : zSpc := fun a g o v g_q => (o, v, g_q) = fn219 [a.getD 0 0, a.getD 1 0] g
noncomputable def fn220 (x : List Int) (g0 : rHp) : zR :=
  zLet (x.getD 0 0) fun n0 =>
  zLet (x.getD 1 0) fun n1 =>
  zLet (fn172 [n1] g0) fun p0 =>
  zLet p0.2.2 fun g1 =>
  if 1 ≤ p0.2.1 then
    zLet (g0 36 0 n0) fun n2 =>
    if n2 = 0 then
      zLet (zF1 .l2i n1) fun n3 =>
      zLet (rUp g1 35 0 n0 n3) fun g2 =>
      zLet (rUp g2 36 0 n0 1) fun g3 =>
      (0, 0, g3)
    else
      zLet (g0 35 0 n0) fun n3 =>
      zLet (zF1 .l2i n1) fun n4 =>
      zLet (fn101 [n3, n4] g1) fun p1 =>
      zLet p1.2.2 fun g2 =>
      if 0 ≤ -n4 + n3 then
        zLet (rUp g2 35 0 n0 n3) fun g3 =>
        zLet (rUp g3 36 0 n0 1) fun g4 =>
        (0, 0, g4)
      else
        zLet (rUp g2 35 0 n0 n4) fun g3 =>
        zLet (rUp g3 36 0 n0 1) fun g4 =>
        (0, 0, g4)
  else
    (0, 0, g1)
noncomputable def sn220 : zSpc := fun a g o v g_q => (o, v, g_q) = fn220 [a.getD 0 0, a.getD 1 0] g
noncomputable def dn221 (x : List Int) (g0 : rHp) : zSt :=
  zLet (g0 1 0 10) fun n0 =>
  zLet (g0 40 0 n0) fun n1 =>
  zLet (g0 0 0 7) fun n23 =>
  if n23 ≠ 0 then
    zLet (fn131 [n0] g0) fun p0 =>
    zLet p0.2.2 fun g1 =>
    zLet (fn111 [1] g1) fun p1 =>
    zLet p1.2.2 fun g2 =>
    zLet (fn146 [] g2) fun p2 =>
    zLet p2.2.2 fun g3 =>
    if 1 ≤ p2.2.1 then
      if 0 ≤ g3 10 (9 * n1) 8 then
        zLet (fn147 [9 * n1] g3) fun p3 =>
        zLet p3.2.2 fun g4 =>
        if 1 ≤ p3.2.1 then
          zLet (fn149 [] g4) fun p4 =>
          zLet p4.2.2 fun g5 =>
          if 1 ≤ p4.2.1 then
            zLet (fn112 [] g5) fun p5 =>
            zLet p5.2.2 fun g6 =>
            .inl (0, [0], g6)
          else
            zLet (g5 2 0 4) fun n41 =>
            zLet (fn112 [] g5) fun p5 =>
            zLet p5.2.2 fun g6 =>
            .inr (0, -n41 + (-2), g6)
        else
          zLet (g4 2 0 4) fun n40 =>
          zLet (fn112 [] g4) fun p4 =>
          zLet p4.2.2 fun g5 =>
          zLet (zF2 .isub ((-2)) n40) fun n41 =>
          .inr (0, n41, g5)
      else
        zLet (fn147 [9 * n1] g3) fun p3 =>
        zLet p3.2.2 fun g4 =>
        if 1 ≤ p3.2.1 then
          zLet (fn149 [] g4) fun p4 =>
          zLet p4.2.2 fun g5 =>
          if 1 ≤ p4.2.1 then
            zLet (fn112 [] g5) fun p5 =>
            zLet p5.2.2 fun g6 =>
            .inr (0, (-1), g6)
          else
            zLet (g5 2 0 4) fun n40 =>
            zLet (fn112 [] g5) fun p5 =>
            zLet p5.2.2 fun g6 =>
            .inr (0, -n40 + (-2), g6)
        else
          zLet (g4 2 0 4) fun n39 =>
          zLet (fn112 [] g4) fun p4 =>
          zLet p4.2.2 fun g5 =>
          zLet (zF2 .isub ((-2)) n39) fun n40 =>
          .inr (0, n40, g5)
    else
      zLet (g3 2 0 4) fun n29 =>
      zLet (fn112 [] g3) fun p3 =>
      zLet p3.2.2 fun g4 =>
      zLet (zF2 .isub ((-2)) n29) fun n41 =>
      .inr (0, n41, g4)
  else
    zLet (fn112 [] g0) fun p0 =>
    zLet p0.2.2 fun g1 =>
    .inr (5, 0, g1)
noncomputable def en221 (g0 : rHp) (s : Nat × List Int × rHp) : zSt :=
  if s.1 = 0 then
    zLet s.2.2 fun g1 =>
    zLet (s.2.1.getD 0 0) fun n23 =>
    zLet (g0 1 0 10) fun n0 =>
    zLet (g0 40 0 n0) fun n1 =>
    zLet (g1 10 (9 * n1) 8) fun n38 =>
    if n23 ≥ 4 then
      zLet (fn206 [n38] g1) fun p1 =>
      zLet p1.2.2 fun g2 =>
      zLet (p1.2.1) fun n44 =>
      .inr (0, n44, g2)
    else
      zLet (g1 46 (9 * n1) n23) fun n44 =>
      zLet (rUp g1 33 0 n23 n44) fun g2 =>
      .inl (0, [n23 + 1], g2)
  else .inr (0, 0, g0)
noncomputable def fn221 (x : List Int) (g : rHp) : zR := zGoo (en221 g) (dn221 x g)
noncomputable def sn221 : zSpc := fun a g o v g_q => (o, v, g_q) = fn221 [] g
noncomputable def pl221 : Nat → List Int → List Int
  | 0, vs => [vs.getD 23 0]
  | _, _ => []
noncomputable def jn221 : List Int → rHp → Nat → List Int → rHp → Prop := fun a g i vs g1 => fn221 [] g = zLoop (en221 g) (i, pl221 i vs, g1)
noncomputable def dn222 (x : List Int) (g0 : rHp) : zSt :=
  zLet (x.getD 0 0) fun n0 =>
  .inl (0, [n0, 0, 0], g0)
noncomputable def en222 (g0 : rHp) (s : Nat × List Int × rHp) : zSt :=
  if s.1 = 0 then
    zLet s.2.2 fun g1 =>
    zLet (s.2.1.getD 0 0) fun n0 =>
    zLet (s.2.1.getD 1 0) fun n6 =>
    zLet (s.2.1.getD 2 0) fun n7 =>
    zLet (g0 9 n0 2) fun n2 =>
    zLet (g0 10 (9 * n0) 12) fun n3 =>
    if n6 ≥ n2 then
      .inr (0, n7, g1)
    else
      zLet (fn132 [n0, n6] g1) fun p1 =>
      zLet p1.2.2 fun g2 =>
      zLet (g0 10 (n6 + 9 * n0 + 1) 4) fun n8 =>
      if n8 = 1 then
        if n3 = 0 then
          zLet (g0 10 (n6 + 9 * n0 + 1) 8) fun n9 =>
          zLet (g0 18 0 n9) fun n11 =>
          zLet (fn101 [n7, n11] g2) fun p2 =>
          zLet p2.2.2 fun g3 =>
          if 0 ≤ -n11 + n7 then
            .inl (0, [n0, n6 + 1, n7], g3)
          else
            .inl (0, [n0, n6 + 1, n11], g3)
        else
          zLet (g0 10 (n6 + 9 * n0 + 1) 8) fun n9 =>
          zLet (g0 18 0 n9) fun n11 =>
          zLet (fn101 [n7, n11 + 1] g2) fun p2 =>
          zLet p2.2.2 fun g3 =>
          if 0 ≤ -n11 + n7 + (-1) then
            .inl (0, [n0, n6 + 1, n7], g3)
          else
            .inl (0, [n0, n6 + 1, n11 + 1], g3)
      else
        if n8 ≠ 2 then
          .inl (0, [n0, n6 + 1, n7], g2)
        else
          zLet (g0 10 (n6 + 9 * n0 + 1) 8) fun n9 =>
          zLet (g0 18 0 n9) fun n11 =>
          zLet (fn101 [n7, n11 + 1] g2) fun p2 =>
          zLet p2.2.2 fun g3 =>
          if 0 ≤ -n11 + n7 + (-1) then
            .inl (0, [n0, n6 + 1, n7], g3)
          else
            .inl (0, [n0, n6 + 1, n11 + 1], g3)
  else .inr (0, 0, g0)
noncomputable def fn222 (x : List Int) (g : rHp) : zR := zGoo (en222 g) (dn222 x g)
noncomputable def sn222 : zSpc := fun a g o v g_q => (o, v, g_q) = fn222 [a.getD 0 0] g
noncomputable def pl222 : Nat → List Int → List Int
  | 0, vs => [vs.getD 0 0, vs.getD 6 0, vs.getD 7 0]
  | _, _ => []
noncomputable def jn222 : List Int → rHp → Nat → List Int → rHp → Prop := fun a g i vs g1 => fn222 [a.getD 0 0] g = zLoop (en222 g) (i, pl222 i vs, g1)
noncomputable def dn223 (x : List Int) (g0 : rHp) : zSt :=
  zLet (fn94 [0] g0) fun p0 =>
  zLet p0.2.2 fun g1 =>
  .inl (0, [0, 1], g1)
noncomputable def en223 (g0 : rHp) (s : Nat × List Int × rHp) : zSt :=
  if s.1 = 0 then
    zLet s.2.2 fun g1 =>
    zLet (s.2.1.getD 0 0) fun n3 =>
    zLet (s.2.1.getD 1 0) fun n4 =>
    if n4 = 0 then
      zLet (rUp g1 1 0 8 0) fun g2 =>
      .inl (2, [0, n4], g2)
    else
      if n3 > 400 then
        zLet (rUp g1 1 0 8 0) fun g2 =>
        .inl (2, [0, n4], g2)
      else
        .inl (1, [0, 0, n3], g1)
  else if s.1 = 1 then
    zLet s.2.2 fun g1 =>
    zLet (s.2.1.getD 0 0) fun n3 =>
    zLet (s.2.1.getD 1 0) fun n4 =>
    zLet (s.2.1.getD 2 0) fun n5 =>
    zLet (g0 1 0 7) fun n0 =>
    zLet (g0 1 0 10) fun n2 =>
    if n3 ≥ n2 then
      .inl (0, [n5 + 1, n4], g1)
    else
      zLet (g0 40 0 n3) fun n6 =>
      zLet (fn131 [n3] g1) fun p1 =>
      zLet p1.2.2 fun g2 =>
      zLet (fn222 [n6] g2) fun p2 =>
      zLet p2.2.2 fun g3 =>
      zLet (p2.2.1) fun n11 =>
      if n11 < n0 then
        zLet (g0 10 (9 * n6) 8) fun n12 =>
        zLet (g1 18 0 n12) fun n13 =>
        if n13 ≥ n11 then
          .inl (1, [n3 + 1, n4, n5], g3)
        else
          zLet (rUp g3 18 0 n12 n11) fun g4 =>
          .inl (1, [n3 + 1, 1, n5], g4)
      else
        .inr (0, 0, g3)
  else if s.1 = 2 then
    zLet s.2.2 fun g1 =>
    zLet (s.2.1.getD 0 0) fun n3 =>
    zLet (s.2.1.getD 1 0) fun n4 =>
    zLet (g0 1 0 7) fun n0 =>
    zLet (g1 1 0 8) fun n5 =>
    if n3 ≥ n0 then
      .inr (0, 1, g1)
    else
      zLet (g1 18 0 n3) fun n6 =>
      zLet (fn101 [n5, n6 + 1] g1) fun p1 =>
      zLet p1.2.2 fun g2 =>
      if 0 ≤ -n6 + n5 + (-1) then
        zLet (rUp g2 1 0 8 n5) fun g3 =>
        .inl (2, [n3 + 1, n4], g3)
      else
        zLet (rUp g2 1 0 8 (n6 + 1)) fun g3 =>
        .inl (2, [n3 + 1, n4], g3)
  else .inr (0, 0, g0)
noncomputable def fn223 (x : List Int) (g : rHp) : zR := zGoo (en223 g) (dn223 x g)
noncomputable def sn223 : zSpc := fun a g o v g_q => (o, v, g_q) = fn223 [] g
noncomputable def pl223 : Nat → List Int → List Int
  | 0, vs => [vs.getD 3 0, vs.getD 4 0]
  | 1, vs => [vs.getD 3 0, vs.getD 4 0, vs.getD 5 0]
  | 2, vs => [vs.getD 3 0, vs.getD 4 0]
  | _, _ => []
noncomputable def jn223 : List Int → rHp → Nat → List Int → rHp → Prop := fun a g i vs g1 => fn223 [] g = zLoop (en223 g) (i, pl223 i vs, g1)
noncomputable def fn224 (x : List Int) (g0 : rHp) : zR :=
  zLet (x.getD 0 0) fun n0 =>
  zLet (x.getD 1 0) fun n1 =>
  zLet (g0 43 n0 n1) fun n2 =>
  if n2 ≠ 1 then
    zLet (g0 46 n0 n1) fun n3 =>
    (0, n3, g0)
  else
    zLet (g0 44 n0 n1) fun n3 =>
    zLet (g0 37 0 n3) fun n4 =>
    (0, n4, g0)
noncomputable def sn224 : zSpc := fun a g o v g_q => (o, v, g_q) = fn224 [a.getD 0 0, a.getD 1 0] g
noncomputable def dn225 (x : List Int) (g0 : rHp) : zSt :=
  zLet (x.getD 0 0) fun n0 =>
  zLet (x.getD 1 0) fun n1 =>
  zLet (g0 10 n0 8) fun n3 =>
  zLet (g0 28 0 n1) fun n4 =>
  if n4 = n3 then
    .inl (0, [n0, n1, 0], g0)
  else
    .inr (0, 0, g0)
noncomputable def en225 (g0 : rHp) (s : Nat × List Int × rHp) : zSt :=
  if s.1 = 0 then
    zLet s.2.2 fun g1 =>
    zLet (s.2.1.getD 0 0) fun n0 =>
    zLet (s.2.1.getD 1 0) fun n1 =>
    zLet (s.2.1.getD 2 0) fun n4 =>
    zLet (g0 10 n0 5) fun n2 =>
    if n4 ≥ n2 then
      .inr (0, 1, g1)
    else
      zLet (g0 27 0 (n4 + 4 * n1)) fun n5 =>
      zLet (g0 43 n0 n4) fun n6 =>
      if n6 ≠ 2 then
        if n6 = 3 then
          .inl (0, [n0, n1, n4 + 1], g1)
        else
          zLet (fn224 [n0, n4] g1) fun p1 =>
          zLet p1.2.2 fun g2 =>
          zLet (p1.2.1) fun n7 =>
          if n7 = n5 then
            .inl (0, [n0, n1, n4 + 1], g2)
          else
            .inr (0, 0, g2)
      else
        zLet (g0 44 n0 n4) fun n7 =>
        zLet (rUp g1 37 0 n7 n5) fun g2 =>
        .inl (0, [n0, n1, n4 + 1], g2)
  else .inr (0, 0, g0)
noncomputable def fn225 (x : List Int) (g : rHp) : zR := zGoo (en225 g) (dn225 x g)
noncomputable def sn225 : zSpc := fun a g o v g_q => (o, v, g_q) = fn225 [a.getD 0 0, a.getD 1 0] g
noncomputable def pl225 : Nat → List Int → List Int
  | 0, vs => [vs.getD 0 0, vs.getD 1 0, vs.getD 4 0]
  | _, _ => []
noncomputable def jn225 : List Int → rHp → Nat → List Int → rHp → Prop := fun a g i vs g1 => fn225 [a.getD 0 0, a.getD 1 0] g = zLoop (en225 g) (i, pl225 i vs, g1)
noncomputable def fn226 (x : List Int) (g0 : rHp) : zR :=
  zLet (x.getD 0 0) fun n0 =>
  zLet (x.getD 1 0) fun n1 =>
  zLet (g0 10 n0 8) fun n3 =>
  zLet (g0 10 n0 9) fun n4 =>
  if n4 ≥ 0 then
    zLet (fn224 [n0, n4] g0) fun p0 =>
    zLet p0.2.2 fun g1 =>
    zLet (p0.2.1) fun n5 =>
    zLet (fn211 [n3, n4, n5] g1) fun p1 =>
    zLet p1.2.2 fun g2 =>
    zLet (p1.2.1) fun n6 =>
    (0, n6, g2)
  else
    zLet (fn208 [n3, n1] g0) fun p0 =>
    zLet p0.2.2 fun g1 =>
    zLet (p0.2.1) fun n5 =>
    (0, n5, g1)
noncomputable def sn226 : zSpc := fun a g o v g_q => (o, v, g_q) = fn226 [a.getD 0 0, a.getD 1 0] g
noncomputable def fn227 (x : List Int) (g0 : rHp) : zR :=
  zLet (x.getD 0 0) fun n0 =>
  zLet (x.getD 1 0) fun n1 =>
  zLet (g0 10 n0 9) fun n2 =>
  if n2 ≥ 0 then
    zLet (fn212 [n1, n2] g0) fun p0 =>
    zLet p0.2.2 fun g1 =>
    zLet (p0.2.1) fun n3 =>
    (0, n3, g1)
  else
    zLet (fn209 [n1] g0) fun p0 =>
    zLet p0.2.2 fun g1 =>
    zLet (p0.2.1) fun n3 =>
    (0, n3, g1)
noncomputable def sn227 : zSpc := fun a g o v g_q => (o, v, g_q) = fn227 [a.getD 0 0, a.getD 1 0] g
noncomputable def dn228 (x : List Int) (g0 : rHp) : zSt :=
  zLet (x.getD 0 0) fun n0 =>
  zLet (fn226 [n0, 0] g0) fun p0 =>
  zLet p0.2.2 fun g1 =>
  zLet (p0.2.1) fun n6 =>
  .inl (0, [n0, 0, n6], g1)
noncomputable def en228 (g0 : rHp) (s : Nat × List Int × rHp) : zSt :=
  if s.1 = 0 then
    zLet s.2.2 fun g1 =>
    zLet (s.2.1.getD 0 0) fun n0 =>
    zLet (s.2.1.getD 1 0) fun n6 =>
    zLet (s.2.1.getD 2 0) fun n7 =>
    zLet (g0 6 0 11) fun n2 =>
    if n7 < 0 then
      .inr (0, 0, g1)
    else
      if n7 ≥ n2 then
        .inr (0, 0, g1)
      else
        if n6 ≥ 2000 then
          .inr (0, 0, g1)
        else
          zLet (fn225 [n0, n7] g1) fun p1 =>
          zLet p1.2.2 fun g2 =>
          if 1 ≤ p1.2.1 then
            .inr (0, 1, g2)
          else
            zLet (fn227 [n0, n7] g2) fun p2 =>
            zLet p2.2.2 fun g3 =>
            zLet (p2.2.1) fun n8 =>
            .inl (0, [n0, n6 + 1, n8], g3)
  else .inr (0, 0, g0)
noncomputable def fn228 (x : List Int) (g : rHp) : zR := zGoo (en228 g) (dn228 x g)
noncomputable def sn228 : zSpc := fun a g o v g_q => (o, v, g_q) = fn228 [a.getD 0 0] g
noncomputable def pl228 : Nat → List Int → List Int
  | 0, vs => [vs.getD 0 0, vs.getD 6 0, vs.getD 7 0]
  | _, _ => []
noncomputable def jn228 : List Int → rHp → Nat → List Int → rHp → Prop := fun a g i vs g1 => fn228 [a.getD 0 0] g = zLoop (en228 g) (i, pl228 i vs, g1)
noncomputable def fn229 (x : List Int) (g0 : rHp) : zR :=
  zLet (x.getD 0 0) fun n0 =>
  zLet (g0 10 n0 4) fun n1 =>
  zLet (fn224 [n0, 0] g0) fun p0 =>
  zLet p0.2.2 fun g1 =>
  zLet (p0.2.1) fun n2 =>
  zLet (fn224 [n0, 1] g1) fun p1 =>
  zLet p1.2.2 fun g2 =>
  zLet (p1.2.1) fun n3 =>
  if n1 ≠ 4 then
    if n2 = n3 then
      (0, 0, g2)
    else
      (0, 1, g2)
  else
    if n2 ≠ n3 then
      (0, 0, g2)
    else
      (0, 1, g2)
noncomputable def sn229 : zSpc := fun a g o v g_q => (o, v, g_q) = fn229 [a.getD 0 0] g
noncomputable def fn230 (x : List Int) (g0 : rHp) : zR :=
  zLet (x.getD 0 0) fun n0 =>
  zLet (fn224 [n0, 0] g0) fun p0 =>
  zLet p0.2.2 fun g1 =>
  zLet (p0.2.1) fun n2 =>
  zLet (fn224 [n0, 1] g1) fun p1 =>
  zLet p1.2.2 fun g2 =>
  zLet (p1.2.1) fun n3 =>
  zLet (fn172 [n2] g2) fun p2 =>
  zLet p2.2.2 fun g3 =>
  if 1 ≤ p2.2.1 then
    zLet (fn172 [n3] g3) fun p3 =>
    zLet p3.2.2 fun g4 =>
    if 1 ≤ p3.2.1 then
      if n2 ≥ n3 then
        (0, 0, g4)
      else
        (0, 1, g4)
    else
      (0, 0, g4)
  else
    (0, 0, g3)
noncomputable def sn230 : zSpc := fun a g o v g_q => (o, v, g_q) = fn230 [a.getD 0 0] g
noncomputable def fn231 (x : List Int) (g0 : rHp) : zR :=
  zLet (x.getD 0 0) fun n0 =>
  zLet (g0 10 n0 4) fun n1 =>
  zLet (g0 10 n0 11) fun n2 =>
  zLet (fn224 [n0, 0] g0) fun p0 =>
  zLet p0.2.2 fun g1 =>
  zLet (p0.2.1) fun n3 =>
  zLet (fn224 [n0, 1] g1) fun p1 =>
  zLet p1.2.2 fun g2 =>
  zLet (p1.2.1) fun n4 =>
  zLet (fn172 [n3] g2) fun p2 =>
  zLet p2.2.2 fun g3 =>
  if 1 ≤ p2.2.1 then
    zLet (fn172 [n4] g3) fun p3 =>
    zLet p3.2.2 fun g4 =>
    if 1 ≤ p3.2.1 then
      if n1 ≠ 6 then
        if n1 ≠ 7 then
          zLet (zF2 .lmul n3 n4) fun n5 =>
          zLet (rUp g4 37 0 n2 n5) fun g5 =>
          if n5 < (-100000000) then
            (0, 0, g5)
          else
            if n5 > 100000000 then
              (0, 0, g5)
            else
              (0, 1, g5)
        else
          zLet (zF2 .lsub n3 n4) fun n5 =>
          zLet (rUp g4 37 0 n2 n5) fun g5 =>
          if n5 < (-100000000) then
            (0, 0, g5)
          else
            if n5 > 100000000 then
              (0, 0, g5)
            else
              (0, 1, g5)
      else
        zLet (zF2 .ladd n3 n4) fun n5 =>
        zLet (rUp g4 37 0 n2 n5) fun g5 =>
        if n5 < (-100000000) then
          (0, 0, g5)
        else
          if n5 > 100000000 then
            (0, 0, g5)
          else
            (0, 1, g5)
    else
      (0, 0, g4)
  else
    (0, 0, g3)
noncomputable def sn231 : zSpc := fun a g o v g_q => (o, v, g_q) = fn231 [a.getD 0 0] g
noncomputable def fn232 (x : List Int) (g0 : rHp) : zR :=
  zLet (x.getD 0 0) fun n0 =>
  zLet (x.getD 1 0) fun n1 =>
  zLet (g0 6 0 0) fun n2 =>
  zLet (g0 10 n0 10) fun n3 =>
  zLet (rUp g0 6 0 0 (n2 + 1)) fun g1 =>
  if n2 + 1 ≤ 50000 then
    zLet (rUp g1 38 0 n3 n1) fun g2 =>
    (0, 0, g2)
  else
    (4, 0, g1)
noncomputable def sn232 : zSpc := fun a g o v g_q => (o, v, g_q) = fn232 [a.getD 0 0, a.getD 1 0] g
noncomputable def fn233 (x : List Int) (g0 : rHp) : zR :=
  zLet (x.getD 0 0) fun n0 =>
  zLet (x.getD 1 0) fun n1 =>
  zLet (x.getD 2 0) fun n2 =>
  zLet (fn206 [n0] g0) fun p0 =>
  zLet p0.2.2 fun g1 =>
  zLet (p0.2.1) fun n4 =>
  if n4 < 0 then
    zLet (fn207 [n0, n1, n2] g1) fun p1 =>
    zLet p1.2.2 fun g2 =>
    if 1 ≤ p1.2.1 then
      (0, 1, g2)
    else
      (1, 0, g2)
  else
    (0, 0, g1)
noncomputable def sn233 : zSpc := fun a g o v g_q => (o, v, g_q) = fn233 [a.getD 0 0, a.getD 1 0, a.getD 2 0] g
noncomputable def fn234 (x : List Int) (g0 : rHp) : zR :=
  zLet (x.getD 0 0) fun n0 =>
  zLet (x.getD 1 0) fun n1 =>
  zLet (g0 10 (9 * n0) 8) fun n2 =>
  zLet (g0 18 0 n2) fun n3 =>
  if n3 ≠ n1 then
    (0, 0, g0)
  else
    (0, 1, g0)
noncomputable def sn234 : zSpc := fun a g o v g_q => (o, v, g_q) = fn234 [a.getD 0 0, a.getD 1 0] g
noncomputable def dn235 (x : List Int) (g0 : rHp) : zSt :=
  zLet (x.getD 0 0) fun n0 =>
  .inl (0, [n0, 0], g0)
noncomputable def en235 (g0 : rHp) (s : Nat × List Int × rHp) : zSt :=
  if s.1 = 0 then
    zLet s.2.2 fun g1 =>
    zLet (s.2.1.getD 0 0) fun n0 =>
    zLet (s.2.1.getD 1 0) fun n3 =>
    zLet (g0 1 0 9) fun n1 =>
    if n3 ≥ n1 then
      .inr (0, 0, g1)
    else
      zLet (g0 19 0 n3) fun n5 =>
      zLet (g0 18 0 n5) fun n6 =>
      if n6 ≠ n0 then
        .inl (0, [n0, n3 + 1], g1)
      else
        zLet (zCpy g1 20 0 (4 * n3) 33 0 0 4) fun g2 =>
        zLet (fn233 [n5, 0, (-1)] g2) fun p2 =>
        zLet p2.2.2 fun g3 =>
        if p2.1 = 0 then
          .inl (0, [n0, n3 + 1], g3)
        else
          .inr (1, 0, g3)
  else .inr (0, 0, g0)
noncomputable def fn235 (x : List Int) (g : rHp) : zR := zGoo (en235 g) (dn235 x g)
noncomputable def sn235 : zSpc := fun a g o v g_q => (o, v, g_q) = fn235 [a.getD 0 0] g
noncomputable def pl235 : Nat → List Int → List Int
  | 0, vs => [vs.getD 0 0, vs.getD 3 0]
  | _, _ => []
noncomputable def jn235 : List Int → rHp → Nat → List Int → rHp → Prop := fun a g i vs g1 => fn235 [a.getD 0 0] g = zLoop (en235 g) (i, pl235 i vs, g1)
noncomputable def fn236 (x : List Int) (g0 : rHp) : zR :=
  zLet (fn202 [] g0) fun p0 =>
  zLet p0.2.2 fun g1 =>
  zLet (rUp g1 6 0 0 0) fun g2 =>
  (0, 0, g2)
noncomputable def sn236 : zSpc := fun a g o v g_q => (o, v, g_q) = fn236 [] g
noncomputable def dn237 (x : List Int) (g0 : rHp) : zSt :=
  zLet (x.getD 0 0) fun n0 =>
  zLet (x.getD 1 0) fun n1 =>
  .inl (0, [n0, n1, 0], g0)
noncomputable def en237 (g0 : rHp) (s : Nat × List Int × rHp) : zSt :=
  if s.1 = 0 then
    zLet s.2.2 fun g1 =>
    zLet (s.2.1.getD 0 0) fun n0 =>
    zLet (s.2.1.getD 1 0) fun n1 =>
    zLet (s.2.1.getD 2 0) fun n6 =>
    zLet (g0 10 n0 8) fun n2 =>
    zLet (g0 5 0 3) fun n4 =>
    zLet (g0 10 n0 13) fun n5 =>
    if n6 ≥ n4 then
      .inr (0, 0, g1)
    else
      zLet (g0 36 0 n6) fun n8 =>
      if n8 = 0 then
        .inl (0, [n0, n1, n6 + 1], g1)
      else
        zLet (zCpy g1 34 0 (4 * n6) 33 0 0 4) fun g2 =>
        zLet (g0 35 0 n6) fun n9 =>
        zLet (rUp g2 33 0 n5 n9) fun g3 =>
        zLet (fn233 [n2, 0, n1] g3) fun p3 =>
        zLet p3.2.2 fun g4 =>
        if p3.1 = 0 then
          .inl (0, [n0, n1, n6 + 1], g4)
        else
          .inr (1, 0, g4)
  else .inr (0, 0, g0)
noncomputable def fn237 (x : List Int) (g : rHp) : zR := zGoo (en237 g) (dn237 x g)
noncomputable def sn237 : zSpc := fun a g o v g_q => (o, v, g_q) = fn237 [a.getD 0 0, a.getD 1 0] g
noncomputable def pl237 : Nat → List Int → List Int
  | 0, vs => [vs.getD 0 0, vs.getD 1 0, vs.getD 6 0]
  | _, _ => []
noncomputable def jn237 : List Int → rHp → Nat → List Int → rHp → Prop := fun a g i vs g1 => fn237 [a.getD 0 0, a.getD 1 0] g = zLoop (en237 g) (i, pl237 i vs, g1)
noncomputable def fn238 (x : List Int) (g0 : rHp) : zR :=
  zLet (x.getD 0 0) fun n0 =>
  zLet (x.getD 1 0) fun n1 =>
  zLet (x.getD 2 0) fun n2 =>
  zLet (rUp g0 6 0 9 0) fun g1 =>
  zLet (rUp g1 6 0 10 n0) fun g2 =>
  zLet (rUp g2 6 0 7 n1) fun g3 =>
  zLet (rUp g3 6 0 8 n2) fun g4 =>
  zLet (rUp g4 6 0 13 0) fun g5 =>
  (0, 0, g5)
noncomputable def sn238 : zSpc := fun a g o v g_q => (o, v, g_q) = fn238 [a.getD 0 0, a.getD 1 0, a.getD 2 0] g
noncomputable def fn239 (x : List Int) (g0 : rHp) : zR :=
  zLet (x.getD 0 0) fun n0 =>
  zLet (x.getD 1 0) fun n1 =>
  zLet (x.getD 2 0) fun n2 =>
  zLet (rUp g0 6 0 9 1) fun g1 =>
  zLet (rUp g1 6 0 10 n0) fun g2 =>
  zLet (rUp g2 6 0 7 n1) fun g3 =>
  zLet (rUp g3 6 0 8 n2) fun g4 =>
  zLet (rUp g4 6 0 13 0) fun g5 =>
  (0, 0, g5)
noncomputable def sn239 : zSpc := fun a g o v g_q => (o, v, g_q) = fn239 [a.getD 0 0, a.getD 1 0, a.getD 2 0] g
noncomputable def fn240 (x : List Int) (g0 : rHp) : zR :=
  zLet (x.getD 0 0) fun n0 =>
  zLet (x.getD 1 0) fun n1 =>
  zLet (x.getD 2 0) fun n2 =>
  zLet (rUp g0 6 0 9 1) fun g1 =>
  zLet (rUp g1 6 0 10 n0) fun g2 =>
  zLet (rUp g2 6 0 7 n1) fun g3 =>
  zLet (rUp g3 6 0 8 n2) fun g4 =>
  zLet (rUp g4 6 0 13 0) fun g5 =>
  (0, 0, g5)
noncomputable def sn240 : zSpc := fun a g o v g_q => (o, v, g_q) = fn240 [a.getD 0 0, a.getD 1 0, a.getD 2 0] g
noncomputable def fn241 (x : List Int) (g0 : rHp) : zR :=
  zLet (x.getD 0 0) fun n0 =>
  zLet (x.getD 1 0) fun n1 =>
  zLet (x.getD 2 0) fun n2 =>
  zLet (rUp g0 6 0 9 2) fun g1 =>
  zLet (rUp g1 6 0 10 n0) fun g2 =>
  zLet (rUp g2 6 0 7 n1) fun g3 =>
  zLet (rUp g3 6 0 8 n2) fun g4 =>
  zLet (rUp g4 6 0 13 0) fun g5 =>
  (0, 0, g5)
noncomputable def sn241 : zSpc := fun a g o v g_q => (o, v, g_q) = fn241 [a.getD 0 0, a.getD 1 0, a.getD 2 0] g
noncomputable def fn242 (x : List Int) (g0 : rHp) : zR :=
  zLet (x.getD 0 0) fun n0 =>
  zLet (g0 8 n0 1) fun n1 =>
  if n1 ≥ 100 then
    zLet (rUp g0 8 n0 1 (n1 + 1)) fun g1 =>
    (0, 0, g1)
  else
    zLet (zCpy g0 37 0 0 41 n0 (8 * n1) 8) fun g1 =>
    zLet (rUp g1 8 n0 1 (n1 + 1)) fun g2 =>
    (0, 0, g2)
noncomputable def sn242 : zSpc := fun a g o v g_q => (o, v, g_q) = fn242 [a.getD 0 0] g
noncomputable def fn243 (x : List Int) (g0 : rHp) : zR :=
  zLet (g0 6 0 7) fun n1 =>
  zLet (g0 10 (9 * n1) 12) fun n3 =>
  zLet (g0 10 (9 * n1) 14) fun n4 =>
  zLet (fn216 [] g0) fun p0 =>
  zLet p0.2.2 fun g1 =>
  zLet (p0.2.1) fun n5 =>
  if n5 ≥ 0 then
    if n3 ≠ 1 then
      zLet (g0 37 0 n4) fun n7 =>
      if n3 ≠ 2 then
        if n3 ≠ 3 then
          zLet (fn220 [n5, n7] g1) fun p1 =>
          zLet p1.2.2 fun g2 =>
          (0, 0, g2)
        else
          zLet (fn219 [n5, n7] g1) fun p1 =>
          zLet p1.2.2 fun g2 =>
          (0, 0, g2)
      else
        zLet (fn218 [n5, n7] g1) fun p1 =>
        zLet p1.2.2 fun g2 =>
        (0, 0, g2)
    else
      zLet (fn217 [n5] g1) fun p1 =>
      zLet p1.2.2 fun g2 =>
      (0, 0, g2)
  else
    (1, 0, g1)
noncomputable def sn243 : zSpc := fun a g o v g_q => (o, v, g_q) = fn243 [] g
noncomputable def dn244 (x : List Int) (g0 : rHp) : zSt :=
  zLet (g0 6 0 9) fun n1 =>
  zLet (g0 6 0 6) fun n2 =>
  if n1 ≠ 2 then
    .inl (0, [0], g0)
  else
    zLet (fn242 [n2] g0) fun p0 =>
    zLet p0.2.2 fun g1 =>
    .inr (0, 0, g1)
noncomputable def en244 (g0 : rHp) (s : Nat × List Int × rHp) : zSt :=
  if s.1 = 0 then
    zLet s.2.2 fun g1 =>
    zLet (s.2.1.getD 0 0) fun n14 =>
    zLet (g0 6 0 9) fun n1 =>
    zLet (g0 6 0 7) fun n4 =>
    zLet (g0 4 0 7) fun n5 =>
    zLet (g0 6 0 8) fun n7 =>
    zLet (g0 6 0 10) fun n8 =>
    zLet (g0 9 n4 3) fun n9 =>
    zLet (g0 10 (9 * n4) 5) fun n10 =>
    zLet (g0 10 (9 * n4) 8) fun n11 =>
    if n14 ≥ 4 then
      if n1 ≠ 1 then
        zLet (fn233 [n11, n8, n7] g1) fun p1 =>
        zLet p1.2.2 fun g2 =>
        if p1.1 = 0 then
          if 1 ≤ p1.2.1 then
            zLet (rUp g2 32 0 n5 n9) fun g3 =>
            zLet (zCpy g3 38 0 0 31 0 (8 * n5) n9) fun g4 =>
            .inr (0, 0, g4)
          else
            .inr (0, 0, g2)
        else
          .inr (1, 0, g2)
      else
        zLet (fn243 [] g1) fun p1 =>
        zLet p1.2.2 fun g2 =>
        if p1.1 = 0 then
          .inr (0, 0, g2)
        else
          .inr (1, 0, g2)
    else
      if n14 ≥ n10 then
        zLet (rUp g1 33 0 n14 0) fun g2 =>
        .inl (0, [n14 + 1], g2)
      else
        zLet (fn224 [9 * n4, n14] g1) fun p1 =>
        zLet p1.2.2 fun g2 =>
        zLet (p1.2.1) fun n15 =>
        zLet (rUp g2 33 0 n14 n15) fun g3 =>
        .inl (0, [n14 + 1], g3)
  else .inr (0, 0, g0)
noncomputable def fn244 (x : List Int) (g : rHp) : zR := zGoo (en244 g) (dn244 x g)
noncomputable def sn244 : zSpc := fun a g o v g_q => (o, v, g_q) = fn244 [] g
noncomputable def pl244 : Nat → List Int → List Int
  | 0, vs => [vs.getD 14 0]
  | _, _ => []
noncomputable def jn244 : List Int → rHp → Nat → List Int → rHp → Prop := fun a g i vs g1 => fn244 [] g = zLoop (en244 g) (i, pl244 i vs, g1)
noncomputable def fn245 (x : List Int) (g0 : rHp) : zR :=
  zLet (fn244 [] g0) fun p0 =>
  zLet p0.2.2 fun g1 =>
  if p0.1 = 0 then
    (0, 0, g1)
  else
    (1, 0, g1)
noncomputable def sn245 : zSpc := fun a g o v g_q => (o, v, g_q) = fn245 [] g
noncomputable def dn246 (x : List Int) (g0 : rHp) : zSt :=
  zLet (g0 6 0 7) fun n4 =>
  zLet (g0 6 0 10) fun n8 =>
  zLet (g0 6 0 12) fun n10 =>
  zLet (g0 6 0 13) fun n11 =>
  zLet (g0 9 n4 3) fun n13 =>
  zLet (g0 10 (9 * n4 + 8) 10) fun n21 =>
  if n8 ≤ 1 then
    zLet (fn226 [9 * n4 + 8, 0] g0) fun p0 =>
    zLet p0.2.2 fun g1 =>
    zLet (p0.2.1) fun n22 =>
    .inl (0, [0, n22, 0, 0], g1)
  else
    if n11 ≠ 0 then
      zLet (fn226 [9 * n4 + 8, 0] g0) fun p0 =>
      zLet p0.2.2 fun g1 =>
      zLet (p0.2.1) fun n22 =>
      .inl (0, [0, n22, 0, 0], g1)
    else
      if n21 ≠ n13 + (-1) then
        zLet (fn226 [9 * n4 + 8, 0] g0) fun p0 =>
        zLet p0.2.2 fun g1 =>
        zLet (p0.2.1) fun n22 =>
        .inl (0, [0, n22, 0, 0], g1)
      else
        zLet (fn226 [9 * n4 + 8, n10] g0) fun p0 =>
        zLet p0.2.2 fun g1 =>
        zLet (p0.2.1) fun n22 =>
        .inl (0, [0, n22, n10, 1], g1)
noncomputable def en246 (g0 : rHp) (s : Nat × List Int × rHp) : zSt :=
  if s.1 = 0 then
    zLet s.2.2 fun g1 =>
    zLet (s.2.1.getD 0 0) fun n22 =>
    zLet (s.2.1.getD 1 0) fun n23 =>
    zLet (s.2.1.getD 2 0) fun n24 =>
    zLet (s.2.1.getD 3 0) fun n25 =>
    zLet (g0 6 0 7) fun n4 =>
    zLet (g0 6 0 11) fun n9 =>
    zLet (g0 6 0 12) fun n10 =>
    zLet (g1 6 0 13) fun n30 =>
    if n23 < 0 then
      .inr (0, 0, g1)
    else
      if n23 ≥ n9 then
        .inr (0, 0, g1)
      else
        if n22 ≥ 2000 then
          .inr (0, 0, g1)
        else
          if n23 < n24 then
            zLet (fn227 [9 * n4 + 8, n23] g1) fun p1 =>
            zLet p1.2.2 fun g2 =>
            zLet (p1.2.1) fun n31 =>
            .inl (0, [n22 + 1, n31, n24, n25], g2)
          else
            zLet (fn225 [9 * n4 + 8, n23] g1) fun p1 =>
            zLet p1.2.2 fun g2 =>
            if 1 ≤ p1.2.1 then
              zLet (fn232 [9 * n4 + 8, n23] g2) fun p2 =>
              zLet p2.2.2 fun g3 =>
              if p2.1 = 0 then
                if n23 < n10 then
                  zLet (rUp g3 6 0 13 n30) fun g4 =>
                  zLet (fn245 [] g4) fun p4 =>
                  zLet p4.2.2 fun g5 =>
                  if p4.1 = 0 then
                    zLet (rUp g5 6 0 13 n30) fun g6 =>
                    zLet (fn227 [9 * n4 + 8, n23] g6) fun p6 =>
                    zLet p6.2.2 fun g7 =>
                    zLet (p6.2.1) fun n34 =>
                    .inl (0, [n22 + 1, n34, n24, n25], g7)
                  else
                    .inr (1, 0, g5)
                else
                  zLet (zF2 .iadd n30 1) fun n31 =>
                  zLet (rUp g3 6 0 13 n31) fun g4 =>
                  zLet (fn245 [] g4) fun p4 =>
                  zLet p4.2.2 fun g5 =>
                  if p4.1 = 0 then
                    zLet (zF2 .isub n31 1) fun n35 =>
                    zLet (rUp g5 6 0 13 n35) fun g6 =>
                    zLet (fn227 [9 * n4 + 8, n23] g6) fun p6 =>
                    zLet p6.2.2 fun g7 =>
                    zLet (p6.2.1) fun n36 =>
                    .inl (0, [n22 + 1, n36, n24, n25], g7)
                  else
                    .inr (1, 0, g5)
              else
                .inr (4, 0, g3)
            else
              zLet (fn227 [9 * n4 + 8, n23] g2) fun p2 =>
              zLet p2.2.2 fun g3 =>
              zLet (p2.2.1) fun n31 =>
              .inl (0, [n22 + 1, n31, n24, n25], g3)
  else .inr (0, 0, g0)
noncomputable def fn246 (x : List Int) (g : rHp) : zR := zGoo (en246 g) (dn246 x g)
noncomputable def sn246 : zSpc := fun a g o v g_q => (o, v, g_q) = fn246 [] g
noncomputable def pl246 : Nat → List Int → List Int
  | 0, vs => [vs.getD 22 0, vs.getD 23 0, vs.getD 24 0, vs.getD 25 0]
  | _, _ => []
noncomputable def jn246 : List Int → rHp → Nat → List Int → rHp → Prop := fun a g i vs g1 => fn246 [] g = zLoop (en246 g) (i, pl246 i vs, g1)
noncomputable def fn247 (x : List Int) (g0 : rHp) : zR :=
  zLet (g0 6 0 7) fun n4 =>
  zLet (g0 9 n4 2) fun n13 =>
  zLet (g0 10 (9 * n4 + 8) 4) fun n19 =>
  if 7 ≥ n13 then
    zLet (fn244 [] g0) fun p0 =>
    zLet p0.2.2 fun g1 =>
    if p0.1 = 0 then
      (0, 0, g1)
    else
      (1, 0, g1)
  else
    zLet (fn132 [n4, 7] g0) fun p0 =>
    zLet p0.2.2 fun g1 =>
    if n19 ≠ 1 then
      if 0 ≤ -n19 + 3 then
        if n19 ≠ 2 then
          zLet (fn230 [9 * n4 + 8] g1) fun p1 =>
          zLet p1.2.2 fun g2 =>
          if 1 ≤ p1.2.1 then
            zLet (fn245 [] g2) fun p2 =>
            zLet p2.2.2 fun g3 =>
            if p2.1 = 0 then
              (0, 0, g3)
            else
              (1, 0, g3)
          else
            (0, 0, g2)
        else
          zLet (fn228 [9 * n4 + 8] g1) fun p1 =>
          zLet p1.2.2 fun g2 =>
          if 1 ≤ p1.2.1 then
            (0, 0, g2)
          else
            zLet (fn245 [] g2) fun p2 =>
            zLet p2.2.2 fun g3 =>
            if p2.1 = 0 then
              (0, 0, g3)
            else
              (1, 0, g3)
      else
        if 0 ≤ -n19 + 5 then
          zLet (fn229 [9 * n4 + 8] g1) fun p1 =>
          zLet p1.2.2 fun g2 =>
          if 1 ≤ p1.2.1 then
            zLet (fn245 [] g2) fun p2 =>
            zLet p2.2.2 fun g3 =>
            if p2.1 = 0 then
              (0, 0, g3)
            else
              (1, 0, g3)
          else
            (0, 0, g2)
        else
          zLet (fn231 [9 * n4 + 8] g1) fun p1 =>
          zLet p1.2.2 fun g2 =>
          if 1 ≤ p1.2.1 then
            zLet (fn245 [] g2) fun p2 =>
            zLet p2.2.2 fun g3 =>
            if p2.1 = 0 then
              (0, 0, g3)
            else
              (1, 0, g3)
          else
            (0, 0, g2)
    else
      zLet (fn246 [] g1) fun p1 =>
      zLet p1.2.2 fun g2 =>
      if p1.1 = 0 then
        (0, 0, g2)
      else
        if p1.1 = 1 then
          (1, 0, g2)
        else
          (4, 0, g2)
noncomputable def sn247 : zSpc := fun a g o v g_q => (o, v, g_q) = fn247 [] g
noncomputable def dn248 (x : List Int) (g0 : rHp) : zSt :=
  zLet (g0 6 0 7) fun n4 =>
  zLet (g0 6 0 10) fun n9 =>
  zLet (g0 6 0 12) fun n11 =>
  zLet (g0 6 0 13) fun n12 =>
  zLet (g0 9 n4 3) fun n14 =>
  zLet (g0 10 (9 * n4 + 7) 10) fun n22 =>
  if n9 ≤ 1 then
    zLet (fn226 [9 * n4 + 7, 0] g0) fun p0 =>
    zLet p0.2.2 fun g1 =>
    zLet (p0.2.1) fun n29 =>
    .inl (0, [0, n29, 0, 0], g1)
  else
    if n12 ≠ 0 then
      zLet (fn226 [9 * n4 + 7, 0] g0) fun p0 =>
      zLet p0.2.2 fun g1 =>
      zLet (p0.2.1) fun n29 =>
      .inl (0, [0, n29, 0, 0], g1)
    else
      if n22 ≠ n14 + (-1) then
        zLet (fn226 [9 * n4 + 7, 0] g0) fun p0 =>
        zLet p0.2.2 fun g1 =>
        zLet (p0.2.1) fun n29 =>
        .inl (0, [0, n29, 0, 0], g1)
      else
        zLet (fn226 [9 * n4 + 7, n11] g0) fun p0 =>
        zLet p0.2.2 fun g1 =>
        zLet (p0.2.1) fun n29 =>
        .inl (0, [0, n29, n11, 1], g1)
noncomputable def en248 (g0 : rHp) (s : Nat × List Int × rHp) : zSt :=
  if s.1 = 0 then
    zLet s.2.2 fun g1 =>
    zLet (s.2.1.getD 0 0) fun n29 =>
    zLet (s.2.1.getD 1 0) fun n30 =>
    zLet (s.2.1.getD 2 0) fun n31 =>
    zLet (s.2.1.getD 3 0) fun n32 =>
    zLet (g0 6 0 7) fun n4 =>
    zLet (g0 6 0 11) fun n10 =>
    zLet (g0 6 0 12) fun n11 =>
    zLet (g1 6 0 13) fun n37 =>
    if n30 < 0 then
      .inr (0, 0, g1)
    else
      if n30 ≥ n10 then
        .inr (0, 0, g1)
      else
        if n29 ≥ 2000 then
          .inr (0, 0, g1)
        else
          if n30 < n31 then
            zLet (fn227 [9 * n4 + 7, n30] g1) fun p1 =>
            zLet p1.2.2 fun g2 =>
            zLet (p1.2.1) fun n38 =>
            .inl (0, [n29 + 1, n38, n31, n32], g2)
          else
            zLet (fn225 [9 * n4 + 7, n30] g1) fun p1 =>
            zLet p1.2.2 fun g2 =>
            if 1 ≤ p1.2.1 then
              zLet (fn232 [9 * n4 + 7, n30] g2) fun p2 =>
              zLet p2.2.2 fun g3 =>
              if p2.1 = 0 then
                if n30 < n11 then
                  zLet (rUp g3 6 0 13 n37) fun g4 =>
                  zLet (fn247 [] g4) fun p4 =>
                  zLet p4.2.2 fun g5 =>
                  if p4.1 = 0 then
                    zLet (g5 6 0 13) fun n42 =>
                    zLet (rUp g5 6 0 13 n42) fun g6 =>
                    zLet (fn227 [9 * n4 + 7, n30] g6) fun p6 =>
                    zLet p6.2.2 fun g7 =>
                    zLet (p6.2.1) fun n43 =>
                    .inl (0, [n29 + 1, n43, n31, n32], g7)
                  else
                    if p4.1 = 1 then
                      .inr (1, 0, g5)
                    else
                      .inr (4, 0, g5)
                else
                  zLet (zF2 .iadd n37 1) fun n38 =>
                  zLet (rUp g3 6 0 13 n38) fun g4 =>
                  zLet (fn247 [] g4) fun p4 =>
                  zLet p4.2.2 fun g5 =>
                  if p4.1 = 0 then
                    zLet (g5 6 0 13) fun n43 =>
                    zLet (zF2 .isub n43 1) fun n44 =>
                    zLet (rUp g5 6 0 13 n44) fun g6 =>
                    zLet (fn227 [9 * n4 + 7, n30] g6) fun p6 =>
                    zLet p6.2.2 fun g7 =>
                    zLet (p6.2.1) fun n45 =>
                    .inl (0, [n29 + 1, n45, n31, n32], g7)
                  else
                    if p4.1 = 1 then
                      .inr (1, 0, g5)
                    else
                      .inr (4, 0, g5)
              else
                .inr (4, 0, g3)
            else
              zLet (fn227 [9 * n4 + 7, n30] g2) fun p2 =>
              zLet p2.2.2 fun g3 =>
              zLet (p2.2.1) fun n38 =>
              .inl (0, [n29 + 1, n38, n31, n32], g3)
  else .inr (0, 0, g0)
noncomputable def fn248 (x : List Int) (g : rHp) : zR := zGoo (en248 g) (dn248 x g)
noncomputable def sn248 : zSpc := fun a g o v g_q => (o, v, g_q) = fn248 [] g
noncomputable def pl248 : Nat → List Int → List Int
  | 0, vs => [vs.getD 29 0, vs.getD 30 0, vs.getD 31 0, vs.getD 32 0]
  | _, _ => []
noncomputable def jn248 : List Int → rHp → Nat → List Int → rHp → Prop := fun a g i vs g1 => fn248 [] g = zLoop (en248 g) (i, pl248 i vs, g1)
noncomputable def fn249 (x : List Int) (g0 : rHp) : zR :=
  zLet (g0 6 0 7) fun n4 =>
  zLet (g0 9 n4 2) fun n13 =>
  zLet (g0 10 (9 * n4 + 7) 4) fun n19 =>
  if 6 ≥ n13 then
    zLet (fn244 [] g0) fun p0 =>
    zLet p0.2.2 fun g1 =>
    if p0.1 = 0 then
      (0, 0, g1)
    else
      (1, 0, g1)
  else
    zLet (fn132 [n4, 6] g0) fun p0 =>
    zLet p0.2.2 fun g1 =>
    if n19 ≠ 1 then
      if 0 ≤ -n19 + 3 then
        if n19 ≠ 2 then
          zLet (fn230 [9 * n4 + 7] g1) fun p1 =>
          zLet p1.2.2 fun g2 =>
          if 1 ≤ p1.2.1 then
            zLet (fn247 [] g2) fun p2 =>
            zLet p2.2.2 fun g3 =>
            if p2.1 = 0 then
              (0, 0, g3)
            else
              if p2.1 = 1 then
                (1, 0, g3)
              else
                (4, 0, g3)
          else
            (0, 0, g2)
        else
          zLet (fn228 [9 * n4 + 7] g1) fun p1 =>
          zLet p1.2.2 fun g2 =>
          if 1 ≤ p1.2.1 then
            (0, 0, g2)
          else
            zLet (fn247 [] g2) fun p2 =>
            zLet p2.2.2 fun g3 =>
            if p2.1 = 0 then
              (0, 0, g3)
            else
              if p2.1 = 1 then
                (1, 0, g3)
              else
                (4, 0, g3)
      else
        if 0 ≤ -n19 + 5 then
          zLet (fn229 [9 * n4 + 7] g1) fun p1 =>
          zLet p1.2.2 fun g2 =>
          if 1 ≤ p1.2.1 then
            zLet (fn247 [] g2) fun p2 =>
            zLet p2.2.2 fun g3 =>
            if p2.1 = 0 then
              (0, 0, g3)
            else
              if p2.1 = 1 then
                (1, 0, g3)
              else
                (4, 0, g3)
          else
            (0, 0, g2)
        else
          zLet (fn231 [9 * n4 + 7] g1) fun p1 =>
          zLet p1.2.2 fun g2 =>
          if 1 ≤ p1.2.1 then
            zLet (fn247 [] g2) fun p2 =>
            zLet p2.2.2 fun g3 =>
            if p2.1 = 0 then
              (0, 0, g3)
            else
              if p2.1 = 1 then
                (1, 0, g3)
              else
                (4, 0, g3)
          else
            (0, 0, g2)
    else
      zLet (fn248 [] g1) fun p1 =>
      zLet p1.2.2 fun g2 =>
      if p1.1 = 0 then
        (0, 0, g2)
      else
        if p1.1 = 1 then
          (1, 0, g2)
        else
          (4, 0, g2)
noncomputable def sn249 : zSpc := fun a g o v g_q => (o, v, g_q) = fn249 [] g
noncomputable def dn250 (x : List Int) (g0 : rHp) : zSt :=
  zLet (g0 6 0 7) fun n4 =>
  zLet (g0 6 0 10) fun n9 =>
  zLet (g0 6 0 12) fun n11 =>
  zLet (g0 6 0 13) fun n12 =>
  zLet (g0 9 n4 3) fun n14 =>
  zLet (g0 10 (9 * n4 + 6) 10) fun n22 =>
  if n9 ≤ 1 then
    zLet (fn226 [9 * n4 + 6, 0] g0) fun p0 =>
    zLet p0.2.2 fun g1 =>
    zLet (p0.2.1) fun n35 =>
    .inl (0, [0, n35, 0, 0], g1)
  else
    if n12 ≠ 0 then
      zLet (fn226 [9 * n4 + 6, 0] g0) fun p0 =>
      zLet p0.2.2 fun g1 =>
      zLet (p0.2.1) fun n35 =>
      .inl (0, [0, n35, 0, 0], g1)
    else
      if n22 ≠ n14 + (-1) then
        zLet (fn226 [9 * n4 + 6, 0] g0) fun p0 =>
        zLet p0.2.2 fun g1 =>
        zLet (p0.2.1) fun n35 =>
        .inl (0, [0, n35, 0, 0], g1)
      else
        zLet (fn226 [9 * n4 + 6, n11] g0) fun p0 =>
        zLet p0.2.2 fun g1 =>
        zLet (p0.2.1) fun n35 =>
        .inl (0, [0, n35, n11, 1], g1)
noncomputable def en250 (g0 : rHp) (s : Nat × List Int × rHp) : zSt :=
  if s.1 = 0 then
    zLet s.2.2 fun g1 =>
    zLet (s.2.1.getD 0 0) fun n35 =>
    zLet (s.2.1.getD 1 0) fun n36 =>
    zLet (s.2.1.getD 2 0) fun n37 =>
    zLet (s.2.1.getD 3 0) fun n38 =>
    zLet (g0 6 0 7) fun n4 =>
    zLet (g0 6 0 11) fun n10 =>
    zLet (g0 6 0 12) fun n11 =>
    zLet (g1 6 0 13) fun n43 =>
    if n36 < 0 then
      .inr (0, 0, g1)
    else
      if n36 ≥ n10 then
        .inr (0, 0, g1)
      else
        if n35 ≥ 2000 then
          .inr (0, 0, g1)
        else
          if n36 < n37 then
            zLet (fn227 [9 * n4 + 6, n36] g1) fun p1 =>
            zLet p1.2.2 fun g2 =>
            zLet (p1.2.1) fun n44 =>
            .inl (0, [n35 + 1, n44, n37, n38], g2)
          else
            zLet (fn225 [9 * n4 + 6, n36] g1) fun p1 =>
            zLet p1.2.2 fun g2 =>
            if 1 ≤ p1.2.1 then
              zLet (fn232 [9 * n4 + 6, n36] g2) fun p2 =>
              zLet p2.2.2 fun g3 =>
              if p2.1 = 0 then
                if n36 < n11 then
                  zLet (rUp g3 6 0 13 n43) fun g4 =>
                  zLet (fn249 [] g4) fun p4 =>
                  zLet p4.2.2 fun g5 =>
                  if p4.1 = 0 then
                    zLet (g5 6 0 13) fun n48 =>
                    zLet (rUp g5 6 0 13 n48) fun g6 =>
                    zLet (fn227 [9 * n4 + 6, n36] g6) fun p6 =>
                    zLet p6.2.2 fun g7 =>
                    zLet (p6.2.1) fun n49 =>
                    .inl (0, [n35 + 1, n49, n37, n38], g7)
                  else
                    if p4.1 = 1 then
                      .inr (1, 0, g5)
                    else
                      .inr (4, 0, g5)
                else
                  zLet (zF2 .iadd n43 1) fun n44 =>
                  zLet (rUp g3 6 0 13 n44) fun g4 =>
                  zLet (fn249 [] g4) fun p4 =>
                  zLet p4.2.2 fun g5 =>
                  if p4.1 = 0 then
                    zLet (g5 6 0 13) fun n49 =>
                    zLet (zF2 .isub n49 1) fun n50 =>
                    zLet (rUp g5 6 0 13 n50) fun g6 =>
                    zLet (fn227 [9 * n4 + 6, n36] g6) fun p6 =>
                    zLet p6.2.2 fun g7 =>
                    zLet (p6.2.1) fun n51 =>
                    .inl (0, [n35 + 1, n51, n37, n38], g7)
                  else
                    if p4.1 = 1 then
                      .inr (1, 0, g5)
                    else
                      .inr (4, 0, g5)
              else
                .inr (4, 0, g3)
            else
              zLet (fn227 [9 * n4 + 6, n36] g2) fun p2 =>
              zLet p2.2.2 fun g3 =>
              zLet (p2.2.1) fun n44 =>
              .inl (0, [n35 + 1, n44, n37, n38], g3)
  else .inr (0, 0, g0)
noncomputable def fn250 (x : List Int) (g : rHp) : zR := zGoo (en250 g) (dn250 x g)
noncomputable def sn250 : zSpc := fun a g o v g_q => (o, v, g_q) = fn250 [] g
noncomputable def pl250 : Nat → List Int → List Int
  | 0, vs => [vs.getD 35 0, vs.getD 36 0, vs.getD 37 0, vs.getD 38 0]
  | _, _ => []
noncomputable def jn250 : List Int → rHp → Nat → List Int → rHp → Prop := fun a g i vs g1 => fn250 [] g = zLoop (en250 g) (i, pl250 i vs, g1)
noncomputable def fn251 (x : List Int) (g0 : rHp) : zR :=
  zLet (g0 6 0 7) fun n4 =>
  zLet (g0 9 n4 2) fun n13 =>
  zLet (g0 10 (9 * n4 + 6) 4) fun n19 =>
  if 5 ≥ n13 then
    zLet (fn244 [] g0) fun p0 =>
    zLet p0.2.2 fun g1 =>
    if p0.1 = 0 then
      (0, 0, g1)
    else
      (1, 0, g1)
  else
    zLet (fn132 [n4, 5] g0) fun p0 =>
    zLet p0.2.2 fun g1 =>
    if n19 ≠ 1 then
      if 0 ≤ -n19 + 3 then
        if n19 ≠ 2 then
          zLet (fn230 [9 * n4 + 6] g1) fun p1 =>
          zLet p1.2.2 fun g2 =>
          if 1 ≤ p1.2.1 then
            zLet (fn249 [] g2) fun p2 =>
            zLet p2.2.2 fun g3 =>
            if p2.1 = 0 then
              (0, 0, g3)
            else
              if p2.1 = 1 then
                (1, 0, g3)
              else
                (4, 0, g3)
          else
            (0, 0, g2)
        else
          zLet (fn228 [9 * n4 + 6] g1) fun p1 =>
          zLet p1.2.2 fun g2 =>
          if 1 ≤ p1.2.1 then
            (0, 0, g2)
          else
            zLet (fn249 [] g2) fun p2 =>
            zLet p2.2.2 fun g3 =>
            if p2.1 = 0 then
              (0, 0, g3)
            else
              if p2.1 = 1 then
                (1, 0, g3)
              else
                (4, 0, g3)
      else
        if 0 ≤ -n19 + 5 then
          zLet (fn229 [9 * n4 + 6] g1) fun p1 =>
          zLet p1.2.2 fun g2 =>
          if 1 ≤ p1.2.1 then
            zLet (fn249 [] g2) fun p2 =>
            zLet p2.2.2 fun g3 =>
            if p2.1 = 0 then
              (0, 0, g3)
            else
              if p2.1 = 1 then
                (1, 0, g3)
              else
                (4, 0, g3)
          else
            (0, 0, g2)
        else
          zLet (fn231 [9 * n4 + 6] g1) fun p1 =>
          zLet p1.2.2 fun g2 =>
          if 1 ≤ p1.2.1 then
            zLet (fn249 [] g2) fun p2 =>
            zLet p2.2.2 fun g3 =>
            if p2.1 = 0 then
              (0, 0, g3)
            else
              if p2.1 = 1 then
                (1, 0, g3)
              else
                (4, 0, g3)
          else
            (0, 0, g2)
    else
      zLet (fn250 [] g1) fun p1 =>
      zLet p1.2.2 fun g2 =>
      if p1.1 = 0 then
        (0, 0, g2)
      else
        if p1.1 = 1 then
          (1, 0, g2)
        else
          (4, 0, g2)
noncomputable def sn251 : zSpc := fun a g o v g_q => (o, v, g_q) = fn251 [] g
noncomputable def dn252 (x : List Int) (g0 : rHp) : zSt :=
  zLet (g0 6 0 7) fun n4 =>
  zLet (g0 6 0 10) fun n9 =>
  zLet (g0 6 0 12) fun n11 =>
  zLet (g0 6 0 13) fun n12 =>
  zLet (g0 9 n4 3) fun n14 =>
  zLet (g0 10 (9 * n4 + 5) 10) fun n22 =>
  if n9 ≤ 1 then
    zLet (fn226 [9 * n4 + 5, 0] g0) fun p0 =>
    zLet p0.2.2 fun g1 =>
    zLet (p0.2.1) fun n41 =>
    .inl (0, [0, n41, 0, 0], g1)
  else
    if n12 ≠ 0 then
      zLet (fn226 [9 * n4 + 5, 0] g0) fun p0 =>
      zLet p0.2.2 fun g1 =>
      zLet (p0.2.1) fun n41 =>
      .inl (0, [0, n41, 0, 0], g1)
    else
      if n22 ≠ n14 + (-1) then
        zLet (fn226 [9 * n4 + 5, 0] g0) fun p0 =>
        zLet p0.2.2 fun g1 =>
        zLet (p0.2.1) fun n41 =>
        .inl (0, [0, n41, 0, 0], g1)
      else
        zLet (fn226 [9 * n4 + 5, n11] g0) fun p0 =>
        zLet p0.2.2 fun g1 =>
        zLet (p0.2.1) fun n41 =>
        .inl (0, [0, n41, n11, 1], g1)
noncomputable def en252 (g0 : rHp) (s : Nat × List Int × rHp) : zSt :=
  if s.1 = 0 then
    zLet s.2.2 fun g1 =>
    zLet (s.2.1.getD 0 0) fun n41 =>
    zLet (s.2.1.getD 1 0) fun n42 =>
    zLet (s.2.1.getD 2 0) fun n43 =>
    zLet (s.2.1.getD 3 0) fun n44 =>
    zLet (g0 6 0 7) fun n4 =>
    zLet (g0 6 0 11) fun n10 =>
    zLet (g0 6 0 12) fun n11 =>
    zLet (g1 6 0 13) fun n49 =>
    if n42 < 0 then
      .inr (0, 0, g1)
    else
      if n42 ≥ n10 then
        .inr (0, 0, g1)
      else
        if n41 ≥ 2000 then
          .inr (0, 0, g1)
        else
          if n42 < n43 then
            zLet (fn227 [9 * n4 + 5, n42] g1) fun p1 =>
            zLet p1.2.2 fun g2 =>
            zLet (p1.2.1) fun n50 =>
            .inl (0, [n41 + 1, n50, n43, n44], g2)
          else
            zLet (fn225 [9 * n4 + 5, n42] g1) fun p1 =>
            zLet p1.2.2 fun g2 =>
            if 1 ≤ p1.2.1 then
              zLet (fn232 [9 * n4 + 5, n42] g2) fun p2 =>
              zLet p2.2.2 fun g3 =>
              if p2.1 = 0 then
                if n42 < n11 then
                  zLet (rUp g3 6 0 13 n49) fun g4 =>
                  zLet (fn251 [] g4) fun p4 =>
                  zLet p4.2.2 fun g5 =>
                  if p4.1 = 0 then
                    zLet (g5 6 0 13) fun n54 =>
                    zLet (rUp g5 6 0 13 n54) fun g6 =>
                    zLet (fn227 [9 * n4 + 5, n42] g6) fun p6 =>
                    zLet p6.2.2 fun g7 =>
                    zLet (p6.2.1) fun n55 =>
                    .inl (0, [n41 + 1, n55, n43, n44], g7)
                  else
                    if p4.1 = 1 then
                      .inr (1, 0, g5)
                    else
                      .inr (4, 0, g5)
                else
                  zLet (zF2 .iadd n49 1) fun n50 =>
                  zLet (rUp g3 6 0 13 n50) fun g4 =>
                  zLet (fn251 [] g4) fun p4 =>
                  zLet p4.2.2 fun g5 =>
                  if p4.1 = 0 then
                    zLet (g5 6 0 13) fun n55 =>
                    zLet (zF2 .isub n55 1) fun n56 =>
                    zLet (rUp g5 6 0 13 n56) fun g6 =>
                    zLet (fn227 [9 * n4 + 5, n42] g6) fun p6 =>
                    zLet p6.2.2 fun g7 =>
                    zLet (p6.2.1) fun n57 =>
                    .inl (0, [n41 + 1, n57, n43, n44], g7)
                  else
                    if p4.1 = 1 then
                      .inr (1, 0, g5)
                    else
                      .inr (4, 0, g5)
              else
                .inr (4, 0, g3)
            else
              zLet (fn227 [9 * n4 + 5, n42] g2) fun p2 =>
              zLet p2.2.2 fun g3 =>
              zLet (p2.2.1) fun n50 =>
              .inl (0, [n41 + 1, n50, n43, n44], g3)
  else .inr (0, 0, g0)
noncomputable def fn252 (x : List Int) (g : rHp) : zR := zGoo (en252 g) (dn252 x g)
noncomputable def sn252 : zSpc := fun a g o v g_q => (o, v, g_q) = fn252 [] g
noncomputable def pl252 : Nat → List Int → List Int
  | 0, vs => [vs.getD 41 0, vs.getD 42 0, vs.getD 43 0, vs.getD 44 0]
  | _, _ => []
noncomputable def jn252 : List Int → rHp → Nat → List Int → rHp → Prop := fun a g i vs g1 => fn252 [] g = zLoop (en252 g) (i, pl252 i vs, g1)
noncomputable def fn253 (x : List Int) (g0 : rHp) : zR :=
  zLet (g0 6 0 7) fun n4 =>
  zLet (g0 9 n4 2) fun n13 =>
  zLet (g0 10 (9 * n4 + 5) 4) fun n19 =>
  if 4 ≥ n13 then
    zLet (fn244 [] g0) fun p0 =>
    zLet p0.2.2 fun g1 =>
    if p0.1 = 0 then
      (0, 0, g1)
    else
      (1, 0, g1)
  else
    zLet (fn132 [n4, 4] g0) fun p0 =>
    zLet p0.2.2 fun g1 =>
    if n19 ≠ 1 then
      if 0 ≤ -n19 + 3 then
        if n19 ≠ 2 then
          zLet (fn230 [9 * n4 + 5] g1) fun p1 =>
          zLet p1.2.2 fun g2 =>
          if 1 ≤ p1.2.1 then
            zLet (fn251 [] g2) fun p2 =>
            zLet p2.2.2 fun g3 =>
            if p2.1 = 0 then
              (0, 0, g3)
            else
              if p2.1 = 1 then
                (1, 0, g3)
              else
                (4, 0, g3)
          else
            (0, 0, g2)
        else
          zLet (fn228 [9 * n4 + 5] g1) fun p1 =>
          zLet p1.2.2 fun g2 =>
          if 1 ≤ p1.2.1 then
            (0, 0, g2)
          else
            zLet (fn251 [] g2) fun p2 =>
            zLet p2.2.2 fun g3 =>
            if p2.1 = 0 then
              (0, 0, g3)
            else
              if p2.1 = 1 then
                (1, 0, g3)
              else
                (4, 0, g3)
      else
        if 0 ≤ -n19 + 5 then
          zLet (fn229 [9 * n4 + 5] g1) fun p1 =>
          zLet p1.2.2 fun g2 =>
          if 1 ≤ p1.2.1 then
            zLet (fn251 [] g2) fun p2 =>
            zLet p2.2.2 fun g3 =>
            if p2.1 = 0 then
              (0, 0, g3)
            else
              if p2.1 = 1 then
                (1, 0, g3)
              else
                (4, 0, g3)
          else
            (0, 0, g2)
        else
          zLet (fn231 [9 * n4 + 5] g1) fun p1 =>
          zLet p1.2.2 fun g2 =>
          if 1 ≤ p1.2.1 then
            zLet (fn251 [] g2) fun p2 =>
            zLet p2.2.2 fun g3 =>
            if p2.1 = 0 then
              (0, 0, g3)
            else
              if p2.1 = 1 then
                (1, 0, g3)
              else
                (4, 0, g3)
          else
            (0, 0, g2)
    else
      zLet (fn252 [] g1) fun p1 =>
      zLet p1.2.2 fun g2 =>
      if p1.1 = 0 then
        (0, 0, g2)
      else
        if p1.1 = 1 then
          (1, 0, g2)
        else
          (4, 0, g2)
noncomputable def sn253 : zSpc := fun a g o v g_q => (o, v, g_q) = fn253 [] g
noncomputable def dn254 (x : List Int) (g0 : rHp) : zSt :=
  zLet (g0 6 0 7) fun n4 =>
  zLet (g0 6 0 10) fun n9 =>
  zLet (g0 6 0 12) fun n11 =>
  zLet (g0 6 0 13) fun n12 =>
  zLet (g0 9 n4 3) fun n14 =>
  zLet (g0 10 (9 * n4 + 4) 10) fun n22 =>
  if n9 ≤ 1 then
    zLet (fn226 [9 * n4 + 4, 0] g0) fun p0 =>
    zLet p0.2.2 fun g1 =>
    zLet (p0.2.1) fun n47 =>
    .inl (0, [0, n47, 0, 0], g1)
  else
    if n12 ≠ 0 then
      zLet (fn226 [9 * n4 + 4, 0] g0) fun p0 =>
      zLet p0.2.2 fun g1 =>
      zLet (p0.2.1) fun n47 =>
      .inl (0, [0, n47, 0, 0], g1)
    else
      if n22 ≠ n14 + (-1) then
        zLet (fn226 [9 * n4 + 4, 0] g0) fun p0 =>
        zLet p0.2.2 fun g1 =>
        zLet (p0.2.1) fun n47 =>
        .inl (0, [0, n47, 0, 0], g1)
      else
        zLet (fn226 [9 * n4 + 4, n11] g0) fun p0 =>
        zLet p0.2.2 fun g1 =>
        zLet (p0.2.1) fun n47 =>
        .inl (0, [0, n47, n11, 1], g1)
noncomputable def en254 (g0 : rHp) (s : Nat × List Int × rHp) : zSt :=
  if s.1 = 0 then
    zLet s.2.2 fun g1 =>
    zLet (s.2.1.getD 0 0) fun n47 =>
    zLet (s.2.1.getD 1 0) fun n48 =>
    zLet (s.2.1.getD 2 0) fun n49 =>
    zLet (s.2.1.getD 3 0) fun n50 =>
    zLet (g0 6 0 7) fun n4 =>
    zLet (g0 6 0 11) fun n10 =>
    zLet (g0 6 0 12) fun n11 =>
    zLet (g1 6 0 13) fun n55 =>
    if n48 < 0 then
      .inr (0, 0, g1)
    else
      if n48 ≥ n10 then
        .inr (0, 0, g1)
      else
        if n47 ≥ 2000 then
          .inr (0, 0, g1)
        else
          if n48 < n49 then
            zLet (fn227 [9 * n4 + 4, n48] g1) fun p1 =>
            zLet p1.2.2 fun g2 =>
            zLet (p1.2.1) fun n56 =>
            .inl (0, [n47 + 1, n56, n49, n50], g2)
          else
            zLet (fn225 [9 * n4 + 4, n48] g1) fun p1 =>
            zLet p1.2.2 fun g2 =>
            if 1 ≤ p1.2.1 then
              zLet (fn232 [9 * n4 + 4, n48] g2) fun p2 =>
              zLet p2.2.2 fun g3 =>
              if p2.1 = 0 then
                if n48 < n11 then
                  zLet (rUp g3 6 0 13 n55) fun g4 =>
                  zLet (fn253 [] g4) fun p4 =>
                  zLet p4.2.2 fun g5 =>
                  if p4.1 = 0 then
                    zLet (g5 6 0 13) fun n60 =>
                    zLet (rUp g5 6 0 13 n60) fun g6 =>
                    zLet (fn227 [9 * n4 + 4, n48] g6) fun p6 =>
                    zLet p6.2.2 fun g7 =>
                    zLet (p6.2.1) fun n61 =>
                    .inl (0, [n47 + 1, n61, n49, n50], g7)
                  else
                    if p4.1 = 1 then
                      .inr (1, 0, g5)
                    else
                      .inr (4, 0, g5)
                else
                  zLet (zF2 .iadd n55 1) fun n56 =>
                  zLet (rUp g3 6 0 13 n56) fun g4 =>
                  zLet (fn253 [] g4) fun p4 =>
                  zLet p4.2.2 fun g5 =>
                  if p4.1 = 0 then
                    zLet (g5 6 0 13) fun n61 =>
                    zLet (zF2 .isub n61 1) fun n62 =>
                    zLet (rUp g5 6 0 13 n62) fun g6 =>
                    zLet (fn227 [9 * n4 + 4, n48] g6) fun p6 =>
                    zLet p6.2.2 fun g7 =>
                    zLet (p6.2.1) fun n63 =>
                    .inl (0, [n47 + 1, n63, n49, n50], g7)
                  else
                    if p4.1 = 1 then
                      .inr (1, 0, g5)
                    else
                      .inr (4, 0, g5)
              else
                .inr (4, 0, g3)
            else
              zLet (fn227 [9 * n4 + 4, n48] g2) fun p2 =>
              zLet p2.2.2 fun g3 =>
              zLet (p2.2.1) fun n56 =>
              .inl (0, [n47 + 1, n56, n49, n50], g3)
  else .inr (0, 0, g0)
noncomputable def fn254 (x : List Int) (g : rHp) : zR := zGoo (en254 g) (dn254 x g)
noncomputable def sn254 : zSpc := fun a g o v g_q => (o, v, g_q) = fn254 [] g
noncomputable def pl254 : Nat → List Int → List Int
  | 0, vs => [vs.getD 47 0, vs.getD 48 0, vs.getD 49 0, vs.getD 50 0]
  | _, _ => []
noncomputable def jn254 : List Int → rHp → Nat → List Int → rHp → Prop := fun a g i vs g1 => fn254 [] g = zLoop (en254 g) (i, pl254 i vs, g1)
noncomputable def fn255 (x : List Int) (g0 : rHp) : zR :=
  zLet (g0 6 0 7) fun n4 =>
  zLet (g0 9 n4 2) fun n13 =>
  zLet (g0 10 (9 * n4 + 4) 4) fun n19 =>
  if 3 ≥ n13 then
    zLet (fn244 [] g0) fun p0 =>
    zLet p0.2.2 fun g1 =>
    if p0.1 = 0 then
      (0, 0, g1)
    else
      (1, 0, g1)
  else
    zLet (fn132 [n4, 3] g0) fun p0 =>
    zLet p0.2.2 fun g1 =>
    if n19 ≠ 1 then
      if 0 ≤ -n19 + 3 then
        if n19 ≠ 2 then
          zLet (fn230 [9 * n4 + 4] g1) fun p1 =>
          zLet p1.2.2 fun g2 =>
          if 1 ≤ p1.2.1 then
            zLet (fn253 [] g2) fun p2 =>
            zLet p2.2.2 fun g3 =>
            if p2.1 = 0 then
              (0, 0, g3)
            else
              if p2.1 = 1 then
                (1, 0, g3)
              else
                (4, 0, g3)
          else
            (0, 0, g2)
        else
          zLet (fn228 [9 * n4 + 4] g1) fun p1 =>
          zLet p1.2.2 fun g2 =>
          if 1 ≤ p1.2.1 then
            (0, 0, g2)
          else
            zLet (fn253 [] g2) fun p2 =>
            zLet p2.2.2 fun g3 =>
            if p2.1 = 0 then
              (0, 0, g3)
            else
              if p2.1 = 1 then
                (1, 0, g3)
              else
                (4, 0, g3)
      else
        if 0 ≤ -n19 + 5 then
          zLet (fn229 [9 * n4 + 4] g1) fun p1 =>
          zLet p1.2.2 fun g2 =>
          if 1 ≤ p1.2.1 then
            zLet (fn253 [] g2) fun p2 =>
            zLet p2.2.2 fun g3 =>
            if p2.1 = 0 then
              (0, 0, g3)
            else
              if p2.1 = 1 then
                (1, 0, g3)
              else
                (4, 0, g3)
          else
            (0, 0, g2)
        else
          zLet (fn231 [9 * n4 + 4] g1) fun p1 =>
          zLet p1.2.2 fun g2 =>
          if 1 ≤ p1.2.1 then
            zLet (fn253 [] g2) fun p2 =>
            zLet p2.2.2 fun g3 =>
            if p2.1 = 0 then
              (0, 0, g3)
            else
              if p2.1 = 1 then
                (1, 0, g3)
              else
                (4, 0, g3)
          else
            (0, 0, g2)
    else
      zLet (fn254 [] g1) fun p1 =>
      zLet p1.2.2 fun g2 =>
      if p1.1 = 0 then
        (0, 0, g2)
      else
        if p1.1 = 1 then
          (1, 0, g2)
        else
          (4, 0, g2)
noncomputable def sn255 : zSpc := fun a g o v g_q => (o, v, g_q) = fn255 [] g
noncomputable def dn256 (x : List Int) (g0 : rHp) : zSt :=
  zLet (g0 6 0 7) fun n4 =>
  zLet (g0 6 0 10) fun n9 =>
  zLet (g0 6 0 12) fun n11 =>
  zLet (g0 6 0 13) fun n12 =>
  zLet (g0 9 n4 3) fun n14 =>
  zLet (g0 10 (9 * n4 + 3) 10) fun n22 =>
  if n9 ≤ 1 then
    zLet (fn226 [9 * n4 + 3, 0] g0) fun p0 =>
    zLet p0.2.2 fun g1 =>
    zLet (p0.2.1) fun n53 =>
    .inl (0, [0, n53, 0, 0], g1)
  else
    if n12 ≠ 0 then
      zLet (fn226 [9 * n4 + 3, 0] g0) fun p0 =>
      zLet p0.2.2 fun g1 =>
      zLet (p0.2.1) fun n53 =>
      .inl (0, [0, n53, 0, 0], g1)
    else
      if n22 ≠ n14 + (-1) then
        zLet (fn226 [9 * n4 + 3, 0] g0) fun p0 =>
        zLet p0.2.2 fun g1 =>
        zLet (p0.2.1) fun n53 =>
        .inl (0, [0, n53, 0, 0], g1)
      else
        zLet (fn226 [9 * n4 + 3, n11] g0) fun p0 =>
        zLet p0.2.2 fun g1 =>
        zLet (p0.2.1) fun n53 =>
        .inl (0, [0, n53, n11, 1], g1)
noncomputable def en256 (g0 : rHp) (s : Nat × List Int × rHp) : zSt :=
  if s.1 = 0 then
    zLet s.2.2 fun g1 =>
    zLet (s.2.1.getD 0 0) fun n53 =>
    zLet (s.2.1.getD 1 0) fun n54 =>
    zLet (s.2.1.getD 2 0) fun n55 =>
    zLet (s.2.1.getD 3 0) fun n56 =>
    zLet (g0 6 0 7) fun n4 =>
    zLet (g0 6 0 11) fun n10 =>
    zLet (g0 6 0 12) fun n11 =>
    zLet (g1 6 0 13) fun n61 =>
    if n54 < 0 then
      .inr (0, 0, g1)
    else
      if n54 ≥ n10 then
        .inr (0, 0, g1)
      else
        if n53 ≥ 2000 then
          .inr (0, 0, g1)
        else
          if n54 < n55 then
            zLet (fn227 [9 * n4 + 3, n54] g1) fun p1 =>
            zLet p1.2.2 fun g2 =>
            zLet (p1.2.1) fun n62 =>
            .inl (0, [n53 + 1, n62, n55, n56], g2)
          else
            zLet (fn225 [9 * n4 + 3, n54] g1) fun p1 =>
            zLet p1.2.2 fun g2 =>
            if 1 ≤ p1.2.1 then
              zLet (fn232 [9 * n4 + 3, n54] g2) fun p2 =>
              zLet p2.2.2 fun g3 =>
              if p2.1 = 0 then
                if n54 < n11 then
                  zLet (rUp g3 6 0 13 n61) fun g4 =>
                  zLet (fn255 [] g4) fun p4 =>
                  zLet p4.2.2 fun g5 =>
                  if p4.1 = 0 then
                    zLet (g5 6 0 13) fun n66 =>
                    zLet (rUp g5 6 0 13 n66) fun g6 =>
                    zLet (fn227 [9 * n4 + 3, n54] g6) fun p6 =>
                    zLet p6.2.2 fun g7 =>
                    zLet (p6.2.1) fun n67 =>
                    .inl (0, [n53 + 1, n67, n55, n56], g7)
                  else
                    if p4.1 = 1 then
                      .inr (1, 0, g5)
                    else
                      .inr (4, 0, g5)
                else
                  zLet (zF2 .iadd n61 1) fun n62 =>
                  zLet (rUp g3 6 0 13 n62) fun g4 =>
                  zLet (fn255 [] g4) fun p4 =>
                  zLet p4.2.2 fun g5 =>
                  if p4.1 = 0 then
                    zLet (g5 6 0 13) fun n67 =>
                    zLet (zF2 .isub n67 1) fun n68 =>
                    zLet (rUp g5 6 0 13 n68) fun g6 =>
                    zLet (fn227 [9 * n4 + 3, n54] g6) fun p6 =>
                    zLet p6.2.2 fun g7 =>
                    zLet (p6.2.1) fun n69 =>
                    .inl (0, [n53 + 1, n69, n55, n56], g7)
                  else
                    if p4.1 = 1 then
                      .inr (1, 0, g5)
                    else
                      .inr (4, 0, g5)
              else
                .inr (4, 0, g3)
            else
              zLet (fn227 [9 * n4 + 3, n54] g2) fun p2 =>
              zLet p2.2.2 fun g3 =>
              zLet (p2.2.1) fun n62 =>
              .inl (0, [n53 + 1, n62, n55, n56], g3)
  else .inr (0, 0, g0)
noncomputable def fn256 (x : List Int) (g : rHp) : zR := zGoo (en256 g) (dn256 x g)
noncomputable def sn256 : zSpc := fun a g o v g_q => (o, v, g_q) = fn256 [] g
noncomputable def pl256 : Nat → List Int → List Int
  | 0, vs => [vs.getD 53 0, vs.getD 54 0, vs.getD 55 0, vs.getD 56 0]
  | _, _ => []
noncomputable def jn256 : List Int → rHp → Nat → List Int → rHp → Prop := fun a g i vs g1 => fn256 [] g = zLoop (en256 g) (i, pl256 i vs, g1)
noncomputable def fn257 (x : List Int) (g0 : rHp) : zR :=
  zLet (g0 6 0 7) fun n4 =>
  zLet (g0 9 n4 2) fun n13 =>
  zLet (g0 10 (9 * n4 + 3) 4) fun n19 =>
  if 2 ≥ n13 then
    zLet (fn244 [] g0) fun p0 =>
    zLet p0.2.2 fun g1 =>
    if p0.1 = 0 then
      (0, 0, g1)
    else
      (1, 0, g1)
  else
    zLet (fn132 [n4, 2] g0) fun p0 =>
    zLet p0.2.2 fun g1 =>
    if n19 ≠ 1 then
      if 0 ≤ -n19 + 3 then
        if n19 ≠ 2 then
          zLet (fn230 [9 * n4 + 3] g1) fun p1 =>
          zLet p1.2.2 fun g2 =>
          if 1 ≤ p1.2.1 then
            zLet (fn255 [] g2) fun p2 =>
            zLet p2.2.2 fun g3 =>
            if p2.1 = 0 then
              (0, 0, g3)
            else
              if p2.1 = 1 then
                (1, 0, g3)
              else
                (4, 0, g3)
          else
            (0, 0, g2)
        else
          zLet (fn228 [9 * n4 + 3] g1) fun p1 =>
          zLet p1.2.2 fun g2 =>
          if 1 ≤ p1.2.1 then
            (0, 0, g2)
          else
            zLet (fn255 [] g2) fun p2 =>
            zLet p2.2.2 fun g3 =>
            if p2.1 = 0 then
              (0, 0, g3)
            else
              if p2.1 = 1 then
                (1, 0, g3)
              else
                (4, 0, g3)
      else
        if 0 ≤ -n19 + 5 then
          zLet (fn229 [9 * n4 + 3] g1) fun p1 =>
          zLet p1.2.2 fun g2 =>
          if 1 ≤ p1.2.1 then
            zLet (fn255 [] g2) fun p2 =>
            zLet p2.2.2 fun g3 =>
            if p2.1 = 0 then
              (0, 0, g3)
            else
              if p2.1 = 1 then
                (1, 0, g3)
              else
                (4, 0, g3)
          else
            (0, 0, g2)
        else
          zLet (fn231 [9 * n4 + 3] g1) fun p1 =>
          zLet p1.2.2 fun g2 =>
          if 1 ≤ p1.2.1 then
            zLet (fn255 [] g2) fun p2 =>
            zLet p2.2.2 fun g3 =>
            if p2.1 = 0 then
              (0, 0, g3)
            else
              if p2.1 = 1 then
                (1, 0, g3)
              else
                (4, 0, g3)
          else
            (0, 0, g2)
    else
      zLet (fn256 [] g1) fun p1 =>
      zLet p1.2.2 fun g2 =>
      if p1.1 = 0 then
        (0, 0, g2)
      else
        if p1.1 = 1 then
          (1, 0, g2)
        else
          (4, 0, g2)
noncomputable def sn257 : zSpc := fun a g o v g_q => (o, v, g_q) = fn257 [] g
noncomputable def dn258 (x : List Int) (g0 : rHp) : zSt :=
  zLet (g0 6 0 7) fun n4 =>
  zLet (g0 6 0 10) fun n9 =>
  zLet (g0 6 0 12) fun n11 =>
  zLet (g0 6 0 13) fun n12 =>
  zLet (g0 9 n4 3) fun n14 =>
  zLet (g0 10 (9 * n4 + 2) 10) fun n22 =>
  if n9 ≤ 1 then
    zLet (fn226 [9 * n4 + 2, 0] g0) fun p0 =>
    zLet p0.2.2 fun g1 =>
    zLet (p0.2.1) fun n59 =>
    .inl (0, [0, n59, 0, 0], g1)
  else
    if n12 ≠ 0 then
      zLet (fn226 [9 * n4 + 2, 0] g0) fun p0 =>
      zLet p0.2.2 fun g1 =>
      zLet (p0.2.1) fun n59 =>
      .inl (0, [0, n59, 0, 0], g1)
    else
      if n22 ≠ n14 + (-1) then
        zLet (fn226 [9 * n4 + 2, 0] g0) fun p0 =>
        zLet p0.2.2 fun g1 =>
        zLet (p0.2.1) fun n59 =>
        .inl (0, [0, n59, 0, 0], g1)
      else
        zLet (fn226 [9 * n4 + 2, n11] g0) fun p0 =>
        zLet p0.2.2 fun g1 =>
        zLet (p0.2.1) fun n59 =>
        .inl (0, [0, n59, n11, 1], g1)
noncomputable def en258 (g0 : rHp) (s : Nat × List Int × rHp) : zSt :=
  if s.1 = 0 then
    zLet s.2.2 fun g1 =>
    zLet (s.2.1.getD 0 0) fun n59 =>
    zLet (s.2.1.getD 1 0) fun n60 =>
    zLet (s.2.1.getD 2 0) fun n61 =>
    zLet (s.2.1.getD 3 0) fun n62 =>
    zLet (g0 6 0 7) fun n4 =>
    zLet (g0 6 0 11) fun n10 =>
    zLet (g0 6 0 12) fun n11 =>
    zLet (g1 6 0 13) fun n67 =>
    if n60 < 0 then
      .inr (0, 0, g1)
    else
      if n60 ≥ n10 then
        .inr (0, 0, g1)
      else
        if n59 ≥ 2000 then
          .inr (0, 0, g1)
        else
          if n60 < n61 then
            zLet (fn227 [9 * n4 + 2, n60] g1) fun p1 =>
            zLet p1.2.2 fun g2 =>
            zLet (p1.2.1) fun n68 =>
            .inl (0, [n59 + 1, n68, n61, n62], g2)
          else
            zLet (fn225 [9 * n4 + 2, n60] g1) fun p1 =>
            zLet p1.2.2 fun g2 =>
            if 1 ≤ p1.2.1 then
              zLet (fn232 [9 * n4 + 2, n60] g2) fun p2 =>
              zLet p2.2.2 fun g3 =>
              if p2.1 = 0 then
                if n60 < n11 then
                  zLet (rUp g3 6 0 13 n67) fun g4 =>
                  zLet (fn257 [] g4) fun p4 =>
                  zLet p4.2.2 fun g5 =>
                  if p4.1 = 0 then
                    zLet (g5 6 0 13) fun n72 =>
                    zLet (rUp g5 6 0 13 n72) fun g6 =>
                    zLet (fn227 [9 * n4 + 2, n60] g6) fun p6 =>
                    zLet p6.2.2 fun g7 =>
                    zLet (p6.2.1) fun n73 =>
                    .inl (0, [n59 + 1, n73, n61, n62], g7)
                  else
                    if p4.1 = 1 then
                      .inr (1, 0, g5)
                    else
                      .inr (4, 0, g5)
                else
                  zLet (zF2 .iadd n67 1) fun n68 =>
                  zLet (rUp g3 6 0 13 n68) fun g4 =>
                  zLet (fn257 [] g4) fun p4 =>
                  zLet p4.2.2 fun g5 =>
                  if p4.1 = 0 then
                    zLet (g5 6 0 13) fun n73 =>
                    zLet (zF2 .isub n73 1) fun n74 =>
                    zLet (rUp g5 6 0 13 n74) fun g6 =>
                    zLet (fn227 [9 * n4 + 2, n60] g6) fun p6 =>
                    zLet p6.2.2 fun g7 =>
                    zLet (p6.2.1) fun n75 =>
                    .inl (0, [n59 + 1, n75, n61, n62], g7)
                  else
                    if p4.1 = 1 then
                      .inr (1, 0, g5)
                    else
                      .inr (4, 0, g5)
              else
                .inr (4, 0, g3)
            else
              zLet (fn227 [9 * n4 + 2, n60] g2) fun p2 =>
              zLet p2.2.2 fun g3 =>
              zLet (p2.2.1) fun n68 =>
              .inl (0, [n59 + 1, n68, n61, n62], g3)
  else .inr (0, 0, g0)
noncomputable def fn258 (x : List Int) (g : rHp) : zR := zGoo (en258 g) (dn258 x g)
noncomputable def sn258 : zSpc := fun a g o v g_q => (o, v, g_q) = fn258 [] g
noncomputable def pl258 : Nat → List Int → List Int
  | 0, vs => [vs.getD 59 0, vs.getD 60 0, vs.getD 61 0, vs.getD 62 0]
  | _, _ => []
noncomputable def jn258 : List Int → rHp → Nat → List Int → rHp → Prop := fun a g i vs g1 => fn258 [] g = zLoop (en258 g) (i, pl258 i vs, g1)
noncomputable def fn259 (x : List Int) (g0 : rHp) : zR :=
  zLet (g0 6 0 7) fun n4 =>
  zLet (g0 9 n4 2) fun n13 =>
  zLet (g0 10 (9 * n4 + 2) 4) fun n19 =>
  if 1 ≥ n13 then
    zLet (fn244 [] g0) fun p0 =>
    zLet p0.2.2 fun g1 =>
    if p0.1 = 0 then
      (0, 0, g1)
    else
      (1, 0, g1)
  else
    zLet (fn132 [n4, 1] g0) fun p0 =>
    zLet p0.2.2 fun g1 =>
    if n19 ≠ 1 then
      if 0 ≤ -n19 + 3 then
        if n19 ≠ 2 then
          zLet (fn230 [9 * n4 + 2] g1) fun p1 =>
          zLet p1.2.2 fun g2 =>
          if 1 ≤ p1.2.1 then
            zLet (fn257 [] g2) fun p2 =>
            zLet p2.2.2 fun g3 =>
            if p2.1 = 0 then
              (0, 0, g3)
            else
              if p2.1 = 1 then
                (1, 0, g3)
              else
                (4, 0, g3)
          else
            (0, 0, g2)
        else
          zLet (fn228 [9 * n4 + 2] g1) fun p1 =>
          zLet p1.2.2 fun g2 =>
          if 1 ≤ p1.2.1 then
            (0, 0, g2)
          else
            zLet (fn257 [] g2) fun p2 =>
            zLet p2.2.2 fun g3 =>
            if p2.1 = 0 then
              (0, 0, g3)
            else
              if p2.1 = 1 then
                (1, 0, g3)
              else
                (4, 0, g3)
      else
        if 0 ≤ -n19 + 5 then
          zLet (fn229 [9 * n4 + 2] g1) fun p1 =>
          zLet p1.2.2 fun g2 =>
          if 1 ≤ p1.2.1 then
            zLet (fn257 [] g2) fun p2 =>
            zLet p2.2.2 fun g3 =>
            if p2.1 = 0 then
              (0, 0, g3)
            else
              if p2.1 = 1 then
                (1, 0, g3)
              else
                (4, 0, g3)
          else
            (0, 0, g2)
        else
          zLet (fn231 [9 * n4 + 2] g1) fun p1 =>
          zLet p1.2.2 fun g2 =>
          if 1 ≤ p1.2.1 then
            zLet (fn257 [] g2) fun p2 =>
            zLet p2.2.2 fun g3 =>
            if p2.1 = 0 then
              (0, 0, g3)
            else
              if p2.1 = 1 then
                (1, 0, g3)
              else
                (4, 0, g3)
          else
            (0, 0, g2)
    else
      zLet (fn258 [] g1) fun p1 =>
      zLet p1.2.2 fun g2 =>
      if p1.1 = 0 then
        (0, 0, g2)
      else
        if p1.1 = 1 then
          (1, 0, g2)
        else
          (4, 0, g2)
noncomputable def sn259 : zSpc := fun a g o v g_q => (o, v, g_q) = fn259 [] g
noncomputable def dn260 (x : List Int) (g0 : rHp) : zSt :=
  zLet (g0 6 0 7) fun n4 =>
  zLet (g0 6 0 10) fun n9 =>
  zLet (g0 6 0 12) fun n11 =>
  zLet (g0 6 0 13) fun n12 =>
  zLet (g0 9 n4 3) fun n14 =>
  zLet (g0 10 (9 * n4 + 1) 10) fun n22 =>
  if n9 ≤ 1 then
    zLet (fn226 [9 * n4 + 1, 0] g0) fun p0 =>
    zLet p0.2.2 fun g1 =>
    zLet (p0.2.1) fun n65 =>
    .inl (0, [0, n65, 0, 0], g1)
  else
    if n12 ≠ 0 then
      zLet (fn226 [9 * n4 + 1, 0] g0) fun p0 =>
      zLet p0.2.2 fun g1 =>
      zLet (p0.2.1) fun n65 =>
      .inl (0, [0, n65, 0, 0], g1)
    else
      if n22 ≠ n14 + (-1) then
        zLet (fn226 [9 * n4 + 1, 0] g0) fun p0 =>
        zLet p0.2.2 fun g1 =>
        zLet (p0.2.1) fun n65 =>
        .inl (0, [0, n65, 0, 0], g1)
      else
        zLet (fn226 [9 * n4 + 1, n11] g0) fun p0 =>
        zLet p0.2.2 fun g1 =>
        zLet (p0.2.1) fun n65 =>
        .inl (0, [0, n65, n11, 1], g1)
noncomputable def en260 (g0 : rHp) (s : Nat × List Int × rHp) : zSt :=
  if s.1 = 0 then
    zLet s.2.2 fun g1 =>
    zLet (s.2.1.getD 0 0) fun n65 =>
    zLet (s.2.1.getD 1 0) fun n66 =>
    zLet (s.2.1.getD 2 0) fun n67 =>
    zLet (s.2.1.getD 3 0) fun n68 =>
    zLet (g0 6 0 7) fun n4 =>
    zLet (g0 6 0 11) fun n10 =>
    zLet (g0 6 0 12) fun n11 =>
    zLet (g1 6 0 13) fun n73 =>
    if n66 < 0 then
      .inr (0, 0, g1)
    else
      if n66 ≥ n10 then
        .inr (0, 0, g1)
      else
        if n65 ≥ 2000 then
          .inr (0, 0, g1)
        else
          if n66 < n67 then
            zLet (fn227 [9 * n4 + 1, n66] g1) fun p1 =>
            zLet p1.2.2 fun g2 =>
            zLet (p1.2.1) fun n74 =>
            .inl (0, [n65 + 1, n74, n67, n68], g2)
          else
            zLet (fn225 [9 * n4 + 1, n66] g1) fun p1 =>
            zLet p1.2.2 fun g2 =>
            if 1 ≤ p1.2.1 then
              zLet (fn232 [9 * n4 + 1, n66] g2) fun p2 =>
              zLet p2.2.2 fun g3 =>
              if p2.1 = 0 then
                if n66 < n11 then
                  zLet (rUp g3 6 0 13 n73) fun g4 =>
                  zLet (fn259 [] g4) fun p4 =>
                  zLet p4.2.2 fun g5 =>
                  if p4.1 = 0 then
                    zLet (g5 6 0 13) fun n78 =>
                    zLet (rUp g5 6 0 13 n78) fun g6 =>
                    zLet (fn227 [9 * n4 + 1, n66] g6) fun p6 =>
                    zLet p6.2.2 fun g7 =>
                    zLet (p6.2.1) fun n79 =>
                    .inl (0, [n65 + 1, n79, n67, n68], g7)
                  else
                    if p4.1 = 1 then
                      .inr (1, 0, g5)
                    else
                      .inr (4, 0, g5)
                else
                  zLet (zF2 .iadd n73 1) fun n74 =>
                  zLet (rUp g3 6 0 13 n74) fun g4 =>
                  zLet (fn259 [] g4) fun p4 =>
                  zLet p4.2.2 fun g5 =>
                  if p4.1 = 0 then
                    zLet (g5 6 0 13) fun n79 =>
                    zLet (zF2 .isub n79 1) fun n80 =>
                    zLet (rUp g5 6 0 13 n80) fun g6 =>
                    zLet (fn227 [9 * n4 + 1, n66] g6) fun p6 =>
                    zLet p6.2.2 fun g7 =>
                    zLet (p6.2.1) fun n81 =>
                    .inl (0, [n65 + 1, n81, n67, n68], g7)
                  else
                    if p4.1 = 1 then
                      .inr (1, 0, g5)
                    else
                      .inr (4, 0, g5)
              else
                .inr (4, 0, g3)
            else
              zLet (fn227 [9 * n4 + 1, n66] g2) fun p2 =>
              zLet p2.2.2 fun g3 =>
              zLet (p2.2.1) fun n74 =>
              .inl (0, [n65 + 1, n74, n67, n68], g3)
  else .inr (0, 0, g0)
noncomputable def fn260 (x : List Int) (g : rHp) : zR := zGoo (en260 g) (dn260 x g)
noncomputable def sn260 : zSpc := fun a g o v g_q => (o, v, g_q) = fn260 [] g
noncomputable def pl260 : Nat → List Int → List Int
  | 0, vs => [vs.getD 65 0, vs.getD 66 0, vs.getD 67 0, vs.getD 68 0]
  | _, _ => []
noncomputable def jn260 : List Int → rHp → Nat → List Int → rHp → Prop := fun a g i vs g1 => fn260 [] g = zLoop (en260 g) (i, pl260 i vs, g1)
noncomputable def fn261 (x : List Int) (g0 : rHp) : zR :=
  zLet (g0 6 0 7) fun n4 =>
  zLet (g0 9 n4 2) fun n13 =>
  zLet (g0 10 (9 * n4 + 1) 4) fun n19 =>
  if 0 ≥ n13 then
    zLet (fn244 [] g0) fun p0 =>
    zLet p0.2.2 fun g1 =>
    if p0.1 = 0 then
      (0, 0, g1)
    else
      (1, 0, g1)
  else
    zLet (fn132 [n4, 0] g0) fun p0 =>
    zLet p0.2.2 fun g1 =>
    if n19 ≠ 1 then
      if 0 ≤ -n19 + 3 then
        if n19 ≠ 2 then
          zLet (fn230 [9 * n4 + 1] g1) fun p1 =>
          zLet p1.2.2 fun g2 =>
          if 1 ≤ p1.2.1 then
            zLet (fn259 [] g2) fun p2 =>
            zLet p2.2.2 fun g3 =>
            if p2.1 = 0 then
              (0, 0, g3)
            else
              if p2.1 = 1 then
                (1, 0, g3)
              else
                (4, 0, g3)
          else
            (0, 0, g2)
        else
          zLet (fn228 [9 * n4 + 1] g1) fun p1 =>
          zLet p1.2.2 fun g2 =>
          if 1 ≤ p1.2.1 then
            (0, 0, g2)
          else
            zLet (fn259 [] g2) fun p2 =>
            zLet p2.2.2 fun g3 =>
            if p2.1 = 0 then
              (0, 0, g3)
            else
              if p2.1 = 1 then
                (1, 0, g3)
              else
                (4, 0, g3)
      else
        if 0 ≤ -n19 + 5 then
          zLet (fn229 [9 * n4 + 1] g1) fun p1 =>
          zLet p1.2.2 fun g2 =>
          if 1 ≤ p1.2.1 then
            zLet (fn259 [] g2) fun p2 =>
            zLet p2.2.2 fun g3 =>
            if p2.1 = 0 then
              (0, 0, g3)
            else
              if p2.1 = 1 then
                (1, 0, g3)
              else
                (4, 0, g3)
          else
            (0, 0, g2)
        else
          zLet (fn231 [9 * n4 + 1] g1) fun p1 =>
          zLet p1.2.2 fun g2 =>
          if 1 ≤ p1.2.1 then
            zLet (fn259 [] g2) fun p2 =>
            zLet p2.2.2 fun g3 =>
            if p2.1 = 0 then
              (0, 0, g3)
            else
              if p2.1 = 1 then
                (1, 0, g3)
              else
                (4, 0, g3)
          else
            (0, 0, g2)
    else
      zLet (fn260 [] g1) fun p1 =>
      zLet p1.2.2 fun g2 =>
      if p1.1 = 0 then
        (0, 0, g2)
      else
        if p1.1 = 1 then
          (1, 0, g2)
        else
          (4, 0, g2)
noncomputable def sn261 : zSpc := fun a g o v g_q => (o, v, g_q) = fn261 [] g
noncomputable def fn262 (x : List Int) (g0 : rHp) : zR :=
  zLet (x.getD 0 0) fun n0 =>
  zLet (x.getD 1 0) fun n1 =>
  zLet (g0 4 0 7) fun n5 =>
  zLet (fn241 [0, n0, (-1)] g0) fun p0 =>
  zLet p0.2.2 fun g1 =>
  zLet (rUp g1 6 0 6 n1) fun g2 =>
  zLet (rUp g2 6 0 11 n5) fun g3 =>
  zLet (rUp g3 6 0 0 0) fun g4 =>
  zLet (fn261 [] g4) fun p4 =>
  zLet p4.2.2 fun g5 =>
  if p4.1 = 0 then
    (0, 0, g5)
  else
    (4, 0, g5)
noncomputable def sn262 : zSpc := fun a g o v g_q => (o, v, g_q) = fn262 [a.getD 0 0, a.getD 1 0] g
noncomputable def dn263 (x : List Int) (g0 : rHp) : zSt :=
  zLet (x.getD 0 0) fun n0 =>
  .inl (0, [n0, 0], g0)
noncomputable def en263 (g0 : rHp) (s : Nat × List Int × rHp) : zSt :=
  if s.1 = 0 then
    zLet s.2.2 fun g1 =>
    zLet (s.2.1.getD 0 0) fun n0 =>
    zLet (s.2.1.getD 1 0) fun n11 =>
    zLet (g0 1 0 10) fun n2 =>
    zLet (g1 4 0 7) fun n13 =>
    if n11 ≥ n2 then
      .inr (0, 0, g1)
    else
      zLet (g0 40 0 n11) fun n20 =>
      zLet (fn131 [n11] g1) fun p1 =>
      zLet p1.2.2 fun g2 =>
      zLet (g0 10 (9 * n20) 12) fun n21 =>
      if 0 ≤ -n21 + 1 then
        if n21 = 0 then
          .inl (0, [n0, n11 + 1], g2)
        else
          zLet (fn234 [n20, n0] g2) fun p2 =>
          zLet p2.2.2 fun g3 =>
          if 1 ≤ p2.2.1 then
            zLet (fn239 [0, n20, n11] g3) fun p3 =>
            zLet p3.2.2 fun g4 =>
            zLet (rUp g4 6 0 11 n13) fun g5 =>
            zLet (fn213 [] g5) fun p5 =>
            zLet p5.2.2 fun g6 =>
            zLet (fn261 [] g6) fun p6 =>
            zLet p6.2.2 fun g7 =>
            if p6.1 = 0 then
              zLet (fn237 [9 * n20, n11] g7) fun p7 =>
              zLet p7.2.2 fun g8 =>
              if p7.1 = 0 then
                .inl (0, [n0, n11 + 1], g8)
              else
                .inr (1, 0, g8)
            else
              if p6.1 = 1 then
                .inr (1, 0, g7)
              else
                .inr (4, 0, g7)
          else
            .inl (0, [n0, n11 + 1], g3)
      else
        zLet (fn234 [n20, n0] g2) fun p2 =>
        zLet p2.2.2 fun g3 =>
        if 1 ≤ p2.2.1 then
          zLet (fn240 [0, n20, n11] g3) fun p3 =>
          zLet p3.2.2 fun g4 =>
          zLet (rUp g4 6 0 11 n13) fun g5 =>
          zLet (fn213 [] g5) fun p5 =>
          zLet p5.2.2 fun g6 =>
          zLet (fn261 [] g6) fun p6 =>
          zLet p6.2.2 fun g7 =>
          if p6.1 = 0 then
            zLet (fn237 [9 * n20, n11] g7) fun p7 =>
            zLet p7.2.2 fun g8 =>
            if p7.1 = 0 then
              .inl (0, [n0, n11 + 1], g8)
            else
              .inr (1, 0, g8)
          else
            if p6.1 = 1 then
              .inr (1, 0, g7)
            else
              .inr (4, 0, g7)
        else
          .inl (0, [n0, n11 + 1], g3)
  else .inr (0, 0, g0)
noncomputable def fn263 (x : List Int) (g : rHp) : zR := zGoo (en263 g) (dn263 x g)
noncomputable def sn263 : zSpc := fun a g o v g_q => (o, v, g_q) = fn263 [a.getD 0 0] g
noncomputable def pl263 : Nat → List Int → List Int
  | 0, vs => [vs.getD 0 0, vs.getD 11 0]
  | _, _ => []
noncomputable def jn263 : List Int → rHp → Nat → List Int → rHp → Prop := fun a g i vs g1 => fn263 [a.getD 0 0] g = zLoop (en263 g) (i, pl263 i vs, g1)
noncomputable def dn264 (x : List Int) (g0 : rHp) : zSt :=
  zLet (x.getD 0 0) fun n0 =>
  zLet (g0 4 0 7) fun n3 =>
  zLet (rUp g0 6 0 12 n3) fun g1 =>
  .inl (0, [n0, 1, 0], g1)
noncomputable def en264 (g0 : rHp) (s : Nat × List Int × rHp) : zSt :=
  if s.1 = 0 then
    zLet s.2.2 fun g1 =>
    zLet (s.2.1.getD 0 0) fun n0 =>
    zLet (s.2.1.getD 1 0) fun n11 =>
    zLet (s.2.1.getD 2 0) fun n12 =>
    zLet (g1 4 0 7) fun n14 =>
    if n11 = 0 then
      .inr (0, n12, g1)
    else
      if n12 > 2000 then
        .inr (0, n12, g1)
      else
        zLet (rUp g1 6 0 11 n14) fun g2 =>
        .inl (1, [n0, 0, n12 + 1], g2)
  else if s.1 = 1 then
    zLet s.2.2 fun g1 =>
    zLet (s.2.1.getD 0 0) fun n0 =>
    zLet (s.2.1.getD 1 0) fun n11 =>
    zLet (s.2.1.getD 2 0) fun n12 =>
    zLet (g0 1 0 10) fun n2 =>
    zLet (g1 4 0 7) fun n14 =>
    zLet (g1 6 0 11) fun n19 =>
    if n11 ≥ n2 then
      zLet (rUp g1 6 0 12 n19) fun g2 =>
      if n14 ≤ n19 then
        .inl (0, [n0, 0, n12], g2)
      else
        .inl (0, [n0, 1, n12], g2)
    else
      zLet (g0 40 0 n11) fun n22 =>
      zLet (fn131 [n11] g1) fun p1 =>
      zLet p1.2.2 fun g2 =>
      if n12 = 1 then
        zLet (g0 10 (9 * n22) 12) fun n23 =>
        if n23 ≠ 0 then
          .inl (1, [n0, n11 + 1, n12], g2)
        else
          zLet (fn234 [n22, n0] g2) fun p2 =>
          zLet p2.2.2 fun g3 =>
          if 1 ≤ p2.2.1 then
            zLet (fn238 [n12, n22, n11] g3) fun p3 =>
            zLet p3.2.2 fun g4 =>
            zLet (fn261 [] g4) fun p4 =>
            zLet p4.2.2 fun g5 =>
            if p4.1 = 0 then
              .inl (1, [n0, n11 + 1, n12], g5)
            else
              if p4.1 = 1 then
                .inr (1, 0, g5)
              else
                .inr (4, 0, g5)
          else
            .inl (1, [n0, n11 + 1, n12], g3)
      else
        zLet (g0 9 n22 3) fun n23 =>
        if n23 ≤ 0 then
          .inl (1, [n0, n11 + 1, n12], g2)
        else
          zLet (g0 10 (9 * n22) 12) fun n24 =>
          if n24 ≠ 0 then
            .inl (1, [n0, n11 + 1, n12], g2)
          else
            zLet (fn234 [n22, n0] g2) fun p2 =>
            zLet p2.2.2 fun g3 =>
            if 1 ≤ p2.2.1 then
              zLet (fn238 [n12, n22, n11] g3) fun p3 =>
              zLet p3.2.2 fun g4 =>
              zLet (fn261 [] g4) fun p4 =>
              zLet p4.2.2 fun g5 =>
              if p4.1 = 0 then
                .inl (1, [n0, n11 + 1, n12], g5)
              else
                if p4.1 = 1 then
                  .inr (1, 0, g5)
                else
                  .inr (4, 0, g5)
            else
              .inl (1, [n0, n11 + 1, n12], g3)
  else .inr (0, 0, g0)
noncomputable def fn264 (x : List Int) (g : rHp) : zR := zGoo (en264 g) (dn264 x g)
noncomputable def sn264 : zSpc := fun a g o v g_q => (o, v, g_q) = fn264 [a.getD 0 0] g
noncomputable def pl264 : Nat → List Int → List Int
  | 0, vs => [vs.getD 0 0, vs.getD 11 0, vs.getD 12 0]
  | 1, vs => [vs.getD 0 0, vs.getD 11 0, vs.getD 12 0]
  | _, _ => []
noncomputable def jn264 : List Int → rHp → Nat → List Int → rHp → Prop := fun a g i vs g1 => fn264 [a.getD 0 0] g = zLoop (en264 g) (i, pl264 i vs, g1)
noncomputable def dn265 (x : List Int) (g0 : rHp) : zSt :=
  zLet (fn163 [] g0) fun p0 =>
  zLet p0.2.2 fun g1 =>
  zLet (fn223 [] g1) fun p1 =>
  zLet p1.2.2 fun g2 =>
  if 1 ≤ p1.2.1 then
    zLet (fn236 [] g2) fun p2 =>
    zLet p2.2.2 fun g3 =>
    .inl (0, [0, 0], g3)
  else
    .inr (3, 0, g2)
noncomputable def en265 (g0 : rHp) (s : Nat × List Int × rHp) : zSt :=
  if s.1 = 0 then
    zLet s.2.2 fun g1 =>
    zLet (s.2.1.getD 0 0) fun n16 =>
    zLet (s.2.1.getD 1 0) fun n17 =>
    zLet (g1 1 0 8) fun n18 =>
    zLet (g1 4 0 7) fun n19 =>
    zLet (g1 6 0 0) fun n20 =>
    if n16 ≥ n18 then
      zLet (rUp g1 0 0 9 n17) fun g2 =>
      zLet (rUp g2 0 0 8 n20) fun g3 =>
      zLet (rUp g3 0 0 7 1) fun g4 =>
      .inr (0, n19, g4)
    else
      zLet (fn235 [n16] g1) fun p1 =>
      zLet p1.2.2 fun g2 =>
      if p1.1 = 0 then
        zLet (fn263 [n16] g2) fun p2 =>
        zLet p2.2.2 fun g3 =>
        if p2.1 = 0 then
          zLet (fn264 [n16] g3) fun p3 =>
          zLet p3.2.2 fun g4 =>
          if p3.1 = 0 then
            zLet (p3.2.1) fun n37 =>
            zLet (zF2 .iadd n17 n37) fun n47 =>
            .inl (0, [n16 + 1, n47], g4)
          else
            if p3.1 = 1 then
              .inr (1, 0, g4)
            else
              .inr (4, 0, g4)
        else
          if p2.1 = 1 then
            .inr (1, 0, g3)
          else
            .inr (4, 0, g3)
      else
        .inr (1, 0, g2)
  else .inr (0, 0, g0)
noncomputable def fn265 (x : List Int) (g : rHp) : zR := zGoo (en265 g) (dn265 x g)
noncomputable def sn265 : zSpc := fun a g o v g_q => (o, v, g_q) = fn265 [] g
noncomputable def pl265 : Nat → List Int → List Int
  | 0, vs => [vs.getD 16 0, vs.getD 17 0]
  | _, _ => []
noncomputable def jn265 : List Int → rHp → Nat → List Int → rHp → Prop := fun a g i vs g1 => fn265 [] g = zLoop (en265 g) (i, pl265 i vs, g1)
noncomputable def fn266 (x : List Int) (g0 : rHp) : zR :=
  zLet (g0 1 0 10) fun n0 =>
  zLet (g0 40 0 n0) fun n1 =>
  zLet (g0 0 0 7) fun n27 =>
  if n27 ≠ 0 then
    zLet (fn131 [n0] g0) fun p0 =>
    zLet p0.2.2 fun g1 =>
    zLet (fn111 [2] g1) fun p1 =>
    zLet p1.2.2 fun g2 =>
    zLet (fn159 [] g2) fun p2 =>
    zLet p2.2.2 fun g3 =>
    if 1 ≤ p2.2.1 then
      zLet (g3 2 0 5) fun n32 =>
      zLet (fn112 [] g3) fun p3 =>
      zLet p3.2.2 fun g4 =>
      zLet (g0 0 0 6) fun n37 =>
      zLet (fn162 [n37] g4) fun p4 =>
      zLet p4.2.2 fun g5 =>
      zLet (rUp g5 8 n37 2 n32) fun g6 =>
      zLet (fn262 [n1, n37] g6) fun p6 =>
      zLet p6.2.2 fun g7 =>
      if p6.1 = 0 then
        zLet (g7 8 n37 1) fun n40 =>
        zLet (g7 6 0 0) fun n41 =>
        zLet (g0 0 0 5) fun n45 =>
        zLet (rUp g7 0 0 5 n37) fun g8 =>
        zLet (rUp g8 0 0 6 n45) fun g9 =>
        zLet (rUp g9 0 0 8 n41) fun g10 =>
        (0, n40, g10)
      else
        (4, 0, g7)
    else
      zLet (g3 2 0 4) fun n32 =>
      zLet (fn112 [] g3) fun p3 =>
      zLet p3.2.2 fun g4 =>
      (0, -n32 + (-1), g4)
  else
    zLet (fn112 [] g0) fun p0 =>
    zLet p0.2.2 fun g1 =>
    (5, 0, g1)
noncomputable def sn266 : zSpc := fun a g o v g_q => (o, v, g_q) = fn266 [] g
noncomputable def fn267 (x : List Int) (g0 : rHp) : zR :=
  zLet (x.getD 0 0) fun n0 =>
  zLet (x.getD 1 0) fun n1 =>
  zLet (x.getD 2 0) fun n2 =>
  zLet (x.getD 3 0) fun n3 =>
  zLet (x.getD 4 0) fun n4 =>
  zLet (g0 2 0 3) fun n5 =>
  zLet (fn164 [n0, n1, n2, n3, n4] g0) fun p0 =>
  zLet p0.2.2 fun g1 =>
  if p0.1 = 0 then
    zLet (rUp g1 112 0 0 (n5 + 20)) fun g2 =>
    (0, 0, g2)
  else
    (0, 1, g1)
noncomputable def sn267 : zSpc := fun a g o v g_q => (o, v, g_q) = fn267 [a.getD 0 0, a.getD 1 0, a.getD 2 0, a.getD 3 0, a.getD 4 0] g
noncomputable def fn268 (x : List Int) (g0 : rHp) : zR :=
  zLet (x.getD 0 0) fun n0 =>
  zLet (fn165 [n0] g0) fun p0 =>
  zLet p0.2.2 fun g1 =>
  if p0.1 = 0 then
    zLet (rUp g1 112 0 0 n0) fun g2 =>
    (0, 0, g2)
  else
    (0, 1, g1)
noncomputable def sn268 : zSpc := fun a g o v g_q => (o, v, g_q) = fn268 [a.getD 0 0] g
noncomputable def fn269 (x : List Int) (g0 : rHp) : zR :=
  zLet (x.getD 0 0) fun n0 =>
  zLet (g0 1 0 10) fun n2 =>
  zLet (fn169 [n0] g0) fun p0 =>
  zLet p0.2.2 fun g1 =>
  if p0.1 = 0 then
    zLet (rUp g1 112 0 0 (n2 + (-1))) fun g2 =>
    (0, 0, g2)
  else
    (0, 1, g1)
noncomputable def sn269 : zSpc := fun a g o v g_q => (o, v, g_q) = fn269 [a.getD 0 0] g
noncomputable def fn270 (x : List Int) (g0 : rHp) : zR :=
  zLet (fn265 [] g0) fun p0 =>
  zLet p0.2.2 fun g1 =>
  if p0.1 = 0 then
    zLet (p0.2.1) fun n16 =>
    zLet (rUp g1 112 0 0 n16) fun g2 =>
    (0, 0, g2)
  else
    if p0.1 = 1 then
      (0, 3, g1)
    else
      if p0.1 = 3 then
        (0, 1, g1)
      else
        (0, 2, g1)
noncomputable def sn270 : zSpc := fun a g o v g_q => (o, v, g_q) = fn270 [] g
noncomputable def fn271 (x : List Int) (g0 : rHp) : zR :=
  zLet (x.getD 0 0) fun n0 =>
  zLet (x.getD 1 0) fun n1 =>
  zLet (fn174 [n0, n1] g0) fun p0 =>
  zLet p0.2.2 fun g1 =>
  if p0.1 = 0 then
    zLet (p0.2.1) fun n4 =>
    zLet (rUp g1 112 0 0 n4) fun g2 =>
    (0, 0, g2)
  else
    if p0.1 = 1 then
      (0, 3, g1)
    else
      if p0.1 = 2 then
        (0, 1, g1)
      else
        (0, 2, g1)
noncomputable def sn271 : zSpc := fun a g o v g_q => (o, v, g_q) = fn271 [a.getD 0 0, a.getD 1 0] g
noncomputable def fn272 (x : List Int) (g0 : rHp) : zR :=
  zLet (x.getD 0 0) fun n0 =>
  zLet (x.getD 1 0) fun n1 =>
  zLet (fn175 [n0, n1] g0) fun p0 =>
  zLet p0.2.2 fun g1 =>
  if p0.1 = 0 then
    zLet (p0.2.1) fun n4 =>
    zLet (rUp g1 112 0 0 n4) fun g2 =>
    (0, 0, g2)
  else
    if p0.1 = 1 then
      (0, 2, g1)
    else
      (0, 1, g1)
noncomputable def sn272 : zSpc := fun a g o v g_q => (o, v, g_q) = fn272 [a.getD 0 0, a.getD 1 0] g
noncomputable def fn273 (x : List Int) (g0 : rHp) : zR :=
  zLet (x.getD 0 0) fun n0 =>
  zLet (fn185 [n0] g0) fun p0 =>
  zLet p0.2.2 fun g1 =>
  if p0.1 = 0 then
    zLet (p0.2.1) fun n5 =>
    zLet (rUp g1 112 0 0 n5) fun g2 =>
    (0, 0, g2)
  else
    if p0.1 = 1 then
      (0, 2, g1)
    else
      (0, 1, g1)
noncomputable def sn273 : zSpc := fun a g o v g_q => (o, v, g_q) = fn273 [a.getD 0 0] g
noncomputable def fn274 (x : List Int) (g0 : rHp) : zR :=
  zLet (fn221 [] g0) fun p0 =>
  zLet p0.2.2 fun g1 =>
  if p0.1 = 0 then
    zLet (p0.2.1) fun n23 =>
    zLet (rUp g1 112 0 0 n23) fun g2 =>
    (0, 0, g2)
  else
    (0, 1, g1)
noncomputable def sn274 : zSpc := fun a g o v g_q => (o, v, g_q) = fn274 [] g
noncomputable def fn275 (x : List Int) (g0 : rHp) : zR :=
  zLet (fn266 [] g0) fun p0 =>
  zLet p0.2.2 fun g1 =>
  if p0.1 = 0 then
    zLet (p0.2.1) fun n27 =>
    zLet (rUp g1 112 0 0 n27) fun g2 =>
    (0, 0, g2)
  else
    if p0.1 = 4 then
      (0, 2, g1)
    else
      (0, 1, g1)
noncomputable def sn275 : zSpc := fun a g o v g_q => (o, v, g_q) = fn275 [] g
noncomputable def fn276 (x : List Int) (g0 : rHp) : zR :=
  zLet (x.getD 0 0) fun n0 =>
  zLet (x.getD 1 0) fun n1 =>
  zLet (fn176 [n0, n1] g0) fun p0 =>
  zLet p0.2.2 fun g1 =>
  if p0.1 = 0 then
    zLet (p0.2.1) fun n3 =>
    zLet (rUp g1 112 0 0 n3) fun g2 =>
    (0, 0, g2)
  else
    (0, 1, g1)
noncomputable def sn276 : zSpc := fun a g o v g_q => (o, v, g_q) = fn276 [a.getD 0 0, a.getD 1 0] g
noncomputable def fn277 (x : List Int) (g0 : rHp) : zR :=
  zLet (x.getD 0 0) fun n0 =>
  zLet (fn177 [n0] g0) fun p0 =>
  zLet p0.2.2 fun g1 =>
  if p0.1 = 0 then
    zLet (p0.2.1) fun n3 =>
    zLet (rUp g1 112 0 0 n3) fun g2 =>
    (0, 0, g2)
  else
    if p0.1 = 1 then
      (0, 2, g1)
    else
      (0, 1, g1)
noncomputable def sn277 : zSpc := fun a g o v g_q => (o, v, g_q) = fn277 [a.getD 0 0] g
noncomputable def fn278 (x : List Int) (g0 : rHp) : zR :=
  zLet (x.getD 0 0) fun n0 =>
  zLet (fn178 [n0] g0) fun p0 =>
  zLet p0.2.2 fun g1 =>
  if p0.1 = 0 then
    zLet (p0.2.1) fun n3 =>
    zLet (rUp g1 112 0 0 n3) fun g2 =>
    (0, 0, g2)
  else
    (0, 1, g1)
noncomputable def sn278 : zSpc := fun a g o v g_q => (o, v, g_q) = fn278 [a.getD 0 0] g
noncomputable def fn279 (x : List Int) (g0 : rHp) : zR :=
  zLet (x.getD 0 0) fun n0 =>
  zLet (fn179 [n0] g0) fun p0 =>
  zLet p0.2.2 fun g1 =>
  if p0.1 = 0 then
    zLet (p0.2.1) fun n11 =>
    zLet (rUp g1 112 0 0 n11) fun g2 =>
    (0, 0, g2)
  else
    (0, 1, g1)
noncomputable def sn279 : zSpc := fun a g o v g_q => (o, v, g_q) = fn279 [a.getD 0 0] g
