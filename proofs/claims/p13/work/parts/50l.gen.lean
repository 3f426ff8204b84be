/-! ===== GOALS gone through, one function for all depths ===== -/
noncomputable def gTd (k : Int) (g0 : rHp) : zSt :=
  zLet (g0 6 0 7) fun n4 =>
  zLet (g0 6 0 10) fun n9 =>
  zLet (g0 6 0 12) fun n11 =>
  zLet (g0 6 0 13) fun n12 =>
  zLet (g0 9 n4 3) fun n14 =>
  zLet (g0 10 (9 * n4 + k) 10) fun n22 =>
  if n9 ≤ 1 then
    zLet (fn226 [9 * n4 + k, 0] g0) fun p0 =>
    zLet p0.2.2 fun g1 =>
    zLet (p0.2.1) fun n65 =>
    .inl (0, [0, n65, 0, 0], g1)
  else
    if n12 ≠ 0 then
      zLet (fn226 [9 * n4 + k, 0] g0) fun p0 =>
      zLet p0.2.2 fun g1 =>
      zLet (p0.2.1) fun n65 =>
      .inl (0, [0, n65, 0, 0], g1)
    else
      if n22 ≠ n14 + (-1) then
        zLet (fn226 [9 * n4 + k, 0] g0) fun p0 =>
        zLet p0.2.2 fun g1 =>
        zLet (p0.2.1) fun n65 =>
        .inl (0, [0, n65, 0, 0], g1)
      else
        zLet (fn226 [9 * n4 + k, n11] g0) fun p0 =>
        zLet p0.2.2 fun g1 =>
        zLet (p0.2.1) fun n65 =>
        .inl (0, [0, n65, n11, 1], g1)
noncomputable def gTe (F : rHp → zR) (Y : Int → rHp → Int) (k : Int) (g0 : rHp) (s : Nat × List Int × rHp) : zSt :=
  if s.1 = 0 then
    zLet s.2.2 fun g1 =>
    zLet (s.2.1.getD 0 0) fun n65 =>
    zLet (s.2.1.getD 1 0) fun n66 =>
    zLet (s.2.1.getD 2 0) fun n67 =>
    zLet (s.2.1.getD 3 0) fun n68 =>
    zLet (g0 6 0 7) fun n4 =>
    zLet (g0 6 0 11) fun n10 =>
    zLet (g0 6 0 12) fun n11 =>
    zLet (g1 6 0 13) fun n73 =>
    if n66 < 0 then
      .inr (0, 0, g1)
    else
      if n66 ≥ n10 then
        .inr (0, 0, g1)
      else
        if n65 ≥ 2000 then
          .inr (0, 0, g1)
        else
          if n66 < n67 then
            zLet (fn227 [9 * n4 + k, n66] g1) fun p1 =>
            zLet p1.2.2 fun g2 =>
            zLet (p1.2.1) fun n74 =>
            .inl (0, [n65 + 1, n74, n67, n68], g2)
          else
            zLet (fn225 [9 * n4 + k, n66] g1) fun p1 =>
            zLet p1.2.2 fun g2 =>
            if 1 ≤ p1.2.1 then
              zLet (fn232 [9 * n4 + k, n66] g2) fun p2 =>
              zLet p2.2.2 fun g3 =>
              if p2.1 = 0 then
                if n66 < n11 then
                  zLet (rUp g3 6 0 13 n73) fun g4 =>
                  zLet (F g4) fun p4 =>
                  zLet p4.2.2 fun g5 =>
                  if p4.1 = 0 then
                    zLet (Y n73 g5) fun n78 =>
                    zLet (rUp g5 6 0 13 n78) fun g6 =>
                    zLet (fn227 [9 * n4 + k, n66] g6) fun p6 =>
                    zLet p6.2.2 fun g7 =>
                    zLet (p6.2.1) fun n79 =>
                    .inl (0, [n65 + 1, n79, n67, n68], g7)
                  else
                    if p4.1 = 1 then
                      .inr (1, 0, g5)
                    else
                      .inr (4, 0, g5)
                else
                  zLet (zF2 .iadd n73 1) fun n74 =>
                  zLet (rUp g3 6 0 13 n74) fun g4 =>
                  zLet (F g4) fun p4 =>
                  zLet p4.2.2 fun g5 =>
                  if p4.1 = 0 then
                    zLet (Y n74 g5) fun n79 =>
                    zLet (zF2 .isub n79 1) fun n80 =>
                    zLet (rUp g5 6 0 13 n80) fun g6 =>
                    zLet (fn227 [9 * n4 + k, n66] g6) fun p6 =>
                    zLet p6.2.2 fun g7 =>
                    zLet (p6.2.1) fun n81 =>
                    .inl (0, [n65 + 1, n81, n67, n68], g7)
                  else
                    if p4.1 = 1 then
                      .inr (1, 0, g5)
                    else
                      .inr (4, 0, g5)
              else
                .inr (4, 0, g3)
            else
              zLet (fn227 [9 * n4 + k, n66] g2) fun p2 =>
              zLet p2.2.2 fun g3 =>
              zLet (p2.2.1) fun n74 =>
              .inl (0, [n65 + 1, n74, n67, n68], g3)
  else .inr (0, 0, g0)
noncomputable def gT (F : rHp → zR) (Y : Int → rHp → Int) (k : Int) (g : rHp) : zR := zGoo (gTe F Y k g) (gTd k g)
noncomputable def gWk (F : rHp → zR) (Y : Int → rHp → Int) (g k : Int) (g0 : rHp) : zR :=
  zLet (g0 6 0 7) fun n4 =>
  zLet (g0 9 n4 2) fun n13 =>
  zLet (g0 10 (9 * n4 + k) 4) fun n19 =>
  if g ≥ n13 then
    zLet (fn244 [] g0) fun p0 =>
    zLet p0.2.2 fun g1 =>
    if p0.1 = 0 then
      (0, 0, g1)
    else
      (1, 0, g1)
  else
    zLet (fn132 [n4, g] g0) fun p0 =>
    zLet p0.2.2 fun g1 =>
    if n19 ≠ 1 then
      if 0 ≤ -n19 + 3 then
        if n19 ≠ 2 then
          zLet (fn230 [9 * n4 + k] g1) fun p1 =>
          zLet p1.2.2 fun g2 =>
          if 1 ≤ p1.2.1 then
            zLet (F g2) fun p2 =>
            zLet p2.2.2 fun g3 =>
            if p2.1 = 0 then
              (0, 0, g3)
            else
              if p2.1 = 1 then
                (1, 0, g3)
              else
                (4, 0, g3)
          else
            (0, 0, g2)
        else
          zLet (fn228 [9 * n4 + k] g1) fun p1 =>
          zLet p1.2.2 fun g2 =>
          if 1 ≤ p1.2.1 then
            (0, 0, g2)
          else
            zLet (F g2) fun p2 =>
            zLet p2.2.2 fun g3 =>
            if p2.1 = 0 then
              (0, 0, g3)
            else
              if p2.1 = 1 then
                (1, 0, g3)
              else
                (4, 0, g3)
      else
        if 0 ≤ -n19 + 5 then
          zLet (fn229 [9 * n4 + k] g1) fun p1 =>
          zLet p1.2.2 fun g2 =>
          if 1 ≤ p1.2.1 then
            zLet (F g2) fun p2 =>
            zLet p2.2.2 fun g3 =>
            if p2.1 = 0 then
              (0, 0, g3)
            else
              if p2.1 = 1 then
                (1, 0, g3)
              else
                (4, 0, g3)
          else
            (0, 0, g2)
        else
          zLet (fn231 [9 * n4 + k] g1) fun p1 =>
          zLet p1.2.2 fun g2 =>
          if 1 ≤ p1.2.1 then
            zLet (F g2) fun p2 =>
            zLet p2.2.2 fun g3 =>
            if p2.1 = 0 then
              (0, 0, g3)
            else
              if p2.1 = 1 then
                (1, 0, g3)
              else
                (4, 0, g3)
          else
            (0, 0, g2)
    else
      zLet (gT F Y k g1) fun p1 =>
      zLet p1.2.2 fun g2 =>
      if p1.1 = 0 then
        (0, 0, g2)
      else
        if p1.1 = 1 then
          (1, 0, g2)
        else
          (4, 0, g2)
noncomputable def gY (_ : Int) (g : rHp) : Int := g 6 0 13
theorem gW_261 (c : rHp) : fn261 [] c = gWk (fn259 []) gY 0 1 c := rfl
theorem gW_259 (c : rHp) : fn259 [] c = gWk (fn257 []) gY 1 2 c := rfl
theorem gW_257 (c : rHp) : fn257 [] c = gWk (fn255 []) gY 2 3 c := rfl
theorem gW_255 (c : rHp) : fn255 [] c = gWk (fn253 []) gY 3 4 c := rfl
theorem gW_253 (c : rHp) : fn253 [] c = gWk (fn251 []) gY 4 5 c := rfl
theorem gW_251 (c : rHp) : fn251 [] c = gWk (fn249 []) gY 5 6 c := rfl
theorem gW_249 (c : rHp) : fn249 [] c = gWk (fn247 []) gY 6 7 c := rfl
noncomputable def gY7 (x : Int) (_ : rHp) : Int := x
theorem fn245_o (c : rHp) : (fn245 [] c).1 = 0 ∨ (fn245 [] c).1 = 1 := by
  unfold fn245
  simp only [zLet]
  split
  · exact Or.inl rfl
  · exact Or.inr rfl
theorem fn245_s (c : rHp) (A : zSt) : (if (fn245 [] c).1 = 0 then A else if (fn245 [] c).1 = 1 then .inr (1, 0, (fn245 [] c).2.2) else .inr (4, 0, (fn245 [] c).2.2)) = if (fn245 [] c).1 = 0 then A else .inr (1, 0, (fn245 [] c).2.2) := by
  rcases fn245_o c with h | h
  · rw [if_pos h, if_pos h]
  · rw [if_pos h]
theorem fn245_r (c : rHp) : (if (fn245 [] c).1 = 0 then ((0, 0, (fn245 [] c).2.2) : zR) else if (fn245 [] c).1 = 1 then (1, 0, (fn245 [] c).2.2) else (4, 0, (fn245 [] c).2.2)) = if (fn245 [] c).1 = 0 then (0, 0, (fn245 [] c).2.2) else (1, 0, (fn245 [] c).2.2) := by
  rcases fn245_o c with h | h
  · rw [if_pos h, if_pos h]
  · rw [if_pos h]
theorem en246_gTe (c0 : rHp) : en246 c0 = gTe (fn245 []) gY7 8 c0 := by
  funext s
  unfold en246 gTe gY7
  simp only [zLet, fn245_s]
theorem fn246_gT (c : rHp) : fn246 [] c = gT (fn245 []) gY7 8 c := by
  unfold fn246 gT
  rw [en246_gTe]
  rfl
theorem gW_247 (c : rHp) : fn247 [] c = gWk (fn245 []) gY7 7 8 c := by
  unfold fn247 gWk
  simp only [zLet, fn245_r, fn246_gT]
