/-! ===== what is written into OUT, by both ===== -/
theorem ipow_le {a i k : Nat} (ha : 0 < a) (h : i ≤ k) : (a : Int) ^ i ≤ (a : Int) ^ k := by
  have := Nat.pow_le_pow_right ha h
  exact_mod_cast this
theorem ldiv_n {a b : Int} (ha : 0 ≤ a) (ha2 : a ≤ 9223372036854775807) (hb : 1 ≤ b) (hb2 : b ≤ 9223372036854775807) : zF2 .ldiv a b = a / b := by
  have ea : (Int64.ofInt a).toInt = a := zL_of (by omega) (by omega)
  have eb : (Int64.ofInt b).toInt = b := zL_of (by omega) (by omega)
  have nb : Int64.ofInt b ≠ 0 := fun h => by
    rw [h] at eb
    have : (0 : Int64).toInt = 0 := rfl
    omega
  have e : zF2 .ldiv a b = rNum ((if Int64.ofInt b = 0 then none else some (Value.long (Int64.ofInt a / Int64.ofInt b)) : Option Value).getD .null) := rfl
  have q0 : 0 ≤ a / b := Int.ediv_nonneg ha (by omega)
  have q1 : a / b ≤ a := Int.ediv_le_self b ha
  rw [e, if_neg nb]
  show (Int64.ofInt a / Int64.ofInt b).toInt = a / b
  rw [Int64.toInt_div, ea, eb, Int.tdiv_eq_ediv_of_nonneg ha]
  exact aB64 (by omega) (by omega)
theorem lrem_n {a b : Int} (ha : 0 ≤ a) (ha2 : a ≤ 9223372036854775807) (hb : 1 ≤ b) (hb2 : b ≤ 9223372036854775807) : zF2 .lrem a b = a % b := by
  have ea : (Int64.ofInt a).toInt = a := zL_of (by omega) (by omega)
  have eb : (Int64.ofInt b).toInt = b := zL_of (by omega) (by omega)
  have nb : Int64.ofInt b ≠ 0 := fun h => by
    rw [h] at eb
    have : (0 : Int64).toInt = 0 := rfl
    omega
  have e : zF2 .lrem a b = rNum ((if Int64.ofInt b = 0 then none else some (Value.long (Int64.ofInt a - Int64.ofInt a / Int64.ofInt b * Int64.ofInt b)) : Option Value).getD .null) := rfl
  have q0 : 0 ≤ a / b := Int.ediv_nonneg ha (by omega)
  have q1 : a / b ≤ a := Int.ediv_le_self b ha
  have q2 : a / b * b ≤ a := Int.ediv_mul_le a (by omega)
  have q3 : 0 ≤ a / b * b := Int.mul_nonneg q0 (by omega)
  have q4 : a % b = a - a / b * b := by rw [Int.emod_def, Int.mul_comm]
  rw [e, if_neg nb]
  show (Int64.ofInt a - Int64.ofInt a / Int64.ofInt b * Int64.ofInt b).toInt = a % b
  rw [Int64.toInt_sub, Int64.toInt_mul, Int64.toInt_div, ea, eb, Int.tdiv_eq_ediv_of_nonneg ha, q4]
  have b1 : Int.bmod (a / b) (2 ^ 64) = a / b := aB64 (by omega) (by omega)
  rw [b1]
  have b2 : Int.bmod (a / b * b) (2 ^ 64) = a / b * b := aB64 (by omega) (by omega)
  rw [b2]
  exact aB64 (by omega) (by omega)
theorem lneg_n {a : Int} (ha : -9000000000000 ≤ a) (ha2 : a ≤ 9000000000000) : zF1 .lneg a = -a := by
  have e : zF1 .lneg a = (- Int64.ofInt a).toInt := rfl
  rw [e, Int64.toInt_neg, zL_of (by omega) (by omega)]
  exact aB64 (by omega) (by omega)
theorem i2b_n {a : Int} (h0 : 0 ≤ a) (h1 : a ≤ 127) : zF1 .i2b a = a := by
  have k : ∀ n : Fin 128, zF1 .i2b (n.val : Int) = (n.val : Int) := by decide +kernel
  have := k ⟨a.toNat, by omega⟩
  rw [show ((a.toNat : Nat) : Int) = a by omega] at this
  exact this
/-- a byte into OUT -/
noncomputable def pbC (b : Int) (c : rHp) : rHp := (fn181 [b] c).2.2
noncomputable def pbM (b : Int) (m : rHp) : rHp := (fn87 [b] m).2.2
noncomputable def plC (L : List Int) (c : rHp) : rHp := L.foldl (fun g b => pbC b g) c
noncomputable def plM (L : List Int) (m : rHp) : rHp := L.foldl (fun g b => pbM b g) m
theorem plC_nil {c : rHp} : plC [] c = c := rfl
theorem plM_nil {m : rHp} : plM [] m = m := rfl
theorem plC_cons {b : Int} {L : List Int} {c : rHp} : plC (b :: L) c = plC L (pbC b c) := rfl
theorem plM_cons {b : Int} {L : List Int} {m : rHp} : plM (b :: L) m = plM L (pbM b m) := rfl
theorem plC_app {L L2 : List Int} {c : rHp} : plC (L ++ L2) c = plC L2 (plC L c) := List.foldl_append
theorem plM_app {L L2 : List Int} {m : rHp} : plM (L ++ L2) m = plM L2 (plM L m) := List.foldl_append
theorem fn181_b {b : Int} {c : rHp} : fn181 [b] c = (0, 0, pbC b c) := by
  unfold pbC fn181
  simp only [zLet, List.getD_cons_zero]
  split <;> rfl
theorem fn87_b {b : Int} {m : rHp} : fn87 [b] m = (0, 0, pbM b m) := rfl
/-- OUT by both -/
noncomputable def oR (c m : rHp) : Prop := c 7 0 1 = m 15 0 4 ∧ 0 ≤ m 15 0 4 ∧ ∀ j, 0 ≤ j → j < m 15 0 4 → c 39 0 j = m 60 0 j ∧ 0 ≤ m 60 0 j ∧ m 60 0 j ≤ 127
theorem pb_two {b : Int} {c m : rHp} (h : oR c m) (h0 : 0 ≤ b) (h1 : b ≤ 127) (h2 : m 15 0 4 < 200) : oR (pbC b c) (pbM b m) ∧ pbM b m 15 0 4 = m 15 0 4 + 1 := by
  obtain ⟨a1, a2, a3⟩ := h
  have ec : pbC b c = rUp (rUp c 39 0 (c 7 0 1) b) 7 0 1 (c 7 0 1 + 1) := by
    unfold pbC fn181
    simp only [zLet, List.getD_cons_zero, i2b_n h0 h1]
    rw [if_neg (by omega)]
  have em : pbM b m = rUp (rUp m 60 0 (m 15 0 4) b) 15 0 4 (m 15 0 4 + 1) := by
    unfold pbM fn87
    simp only [zLet, List.getD_cons_zero, i2b_n h0 h1]
  have e4 : pbM b m 15 0 4 = m 15 0 4 + 1 := by rw [em, rUp_at]
  refine ⟨⟨by rw [e4, ec, rUp_at, a1], by rw [e4]; omega, fun j j0 j1 => ?_⟩, e4⟩
  rw [e4] at j1
  rw [ec, em, rUp_grp (show (39 : Nat) ≠ 7 by decide), rUp_grp (show (60 : Nat) ≠ 15 by decide), a1]
  by_cases e : j = m 15 0 4
  · rw [e, rUp_at, rUp_at]
    exact ⟨rfl, h0, h1⟩
  · rw [rUp_ne (fun w => e w.2.2), rUp_ne (fun w => e w.2.2)]
    exact a3 j j0 (by omega)
theorem pbC_gr {b : Int} {c : rHp} {K : Nat} (h7 : K ≠ 7) (h39 : K ≠ 39) : pbC b c K = c K := by
  unfold pbC fn181
  simp only [zLet, List.getD_cons_zero]
  split
  · rfl
  · show rUp (rUp c 39 0 _ _) 7 0 1 _ K = c K
    rw [rUp_grp h7, rUp_grp h39]
theorem pbM_gr {b : Int} {m : rHp} {K : Nat} (h15 : K ≠ 15) (h60 : K ≠ 60) : pbM b m K = m K := by
  show rUp (rUp m 60 0 _ _) 15 0 4 _ K = m K
  rw [rUp_grp h15, rUp_grp h60]
theorem pbM_fl {b : Int} {m : rHp} {j : Int} (h : j ≠ 4) : pbM b m 15 0 j = m 15 0 j := by
  show rUp (rUp m 60 0 _ _) 15 0 4 _ 15 0 j = m 15 0 j
  rw [rUp_ne (fun w => h w.2.2), rUp_grp (by decide)]
theorem plC_gr {K : Nat} (h7 : K ≠ 7) (h39 : K ≠ 39) : ∀ {L : List Int} {c : rHp}, plC L c K = c K
  | [], _ => rfl
  | b :: L, c => by rw [plC_cons, plC_gr h7 h39, pbC_gr h7 h39]
theorem plM_gr {K : Nat} (h15 : K ≠ 15) (h60 : K ≠ 60) : ∀ {L : List Int} {m : rHp}, plM L m K = m K
  | [], _ => rfl
  | b :: L, m => by rw [plM_cons, plM_gr h15 h60, pbM_gr h15 h60]
theorem plM_fl {j : Int} (h : j ≠ 4) : ∀ {L : List Int} {m : rHp}, plM L m 15 0 j = m 15 0 j
  | [], _ => rfl
  | b :: L, m => by rw [plM_cons, plM_fl h, pbM_fl h]
theorem pl_two : ∀ {L : List Int} {c m : rHp}, oR c m → (∀ b ∈ L, 0 ≤ b ∧ b ≤ 127) → m 15 0 4 + L.length ≤ 200 → oR (plC L c) (plM L m) ∧ plM L m 15 0 4 = m 15 0 4 + L.length
  | [], c, m, h, _, _ => ⟨h, by rw [plM_nil]; simp⟩
  | b :: L, c, m, h, hb, hl => by
    rw [List.length_cons] at hl
    obtain ⟨b0, b1⟩ := hb b List.mem_cons_self
    obtain ⟨h2, e2⟩ := pb_two h b0 b1 (by omega)
    obtain ⟨h3, e3⟩ := pl_two h2 (fun x hx => hb x (List.mem_cons_of_mem _ hx)) (by rw [e2]; omega)
    rw [plC_cons, plM_cons]
    refine ⟨h3, ?_⟩
    rw [e3, e2, List.length_cons]
    omega
/-! ===== words into OUT ===== -/
/-- the bytes of a word -/
noncomputable def wlB (t : Int → Int) (a : Int) : Nat → List Int
  | 0 => []
  | k + 1 => t a :: wlB t (a + 1) k
theorem wlB_len {t : Int → Int} : ∀ {k : Nat} {a : Int}, (wlB t a k).length = k
  | 0, _ => rfl
  | k + 1, a => by
    show (wlB t (a + 1) k).length + 1 = _
    rw [wlB_len]
theorem wlB_mem {t : Int → Int} {P : Int → Prop} : ∀ {k : Nat} {a : Int}, (∀ j : Nat, j < k → P (t (a + j))) → ∀ b ∈ wlB t a k, P b
  | 0, _, _, b, hb => by cases hb
  | k + 1, a, h, b, hb => by
    rcases List.mem_cons.mp hb with rfl | hb
    · have := h 0 (Nat.succ_pos k)
      rw [show a + ((0 : Nat) : Int) = a by omega] at this
      exact this
    · refine wlB_mem (k := k) (a := a + 1) (fun j hj => ?_) b hb
      have := h (j + 1) (by omega)
      rw [show a + ((j + 1 : Nat) : Int) = a + 1 + (j : Int) by omega] at this
      exact this
/-- the digit of the byte at j -/
noncomputable def dgW (t : Int → Int) (a : Int) : Nat → Int
  | 0 => t a % 32
  | j + 1 => pSy (t (a + j + 1))
theorem pow38_pos (e : Nat) : (1 : Int) ≤ 38 ^ e := by
  have : (0 : Int) < 38 ^ e := Int.pow_pos (by decide)
  omega
/-- what of the word is left behind the byte k - e -/
noncomputable def loW (t : Int → Int) (a : Int) (k : Nat) : Nat → Int
  | 0 => 0
  | e + 1 => dgW t a (k - e) * 38 ^ e + loW t a k e
theorem dgW_rg {q : Int → Bool} (hq : pLt q) {t : Int → Int} {a : Int} {k : Nat} (h : pV q t a k) : ∀ j, j ≤ k → 1 ≤ dgW t a j ∧ dgW t a j ≤ 37
  | 0, _ => by
    have := pLt_rg hq h.1
    show 1 ≤ t a % 32 ∧ t a % 32 ≤ 37
    omega
  | j + 1, hj => pSy_rg (h.2 j (by omega))
theorem loW_rg {q : Int → Bool} (hq : pLt q) {t : Int → Int} {a : Int} {k : Nat} (h : pV q t a k) : ∀ e, e ≤ k + 1 → 0 ≤ loW t a k e ∧ loW t a k e < 38 ^ e
  | 0, _ => by
    show (0 : Int) ≤ 0 ∧ (0 : Int) < 38 ^ 0
    simp
  | e + 1, he => by
    obtain ⟨i1, i2⟩ := loW_rg hq h e (by omega)
    obtain ⟨d1, d2⟩ := dgW_rg hq h (k - e) (by omega)
    have p := pow38_pos e
    have u1 : (0 : Int) ≤ dgW t a (k - e) * 38 ^ e := Int.mul_nonneg (by omega) (by omega)
    have u2 : dgW t a (k - e) * 38 ^ e ≤ 37 * 38 ^ e := Int.mul_le_mul_of_nonneg_right d2 (by omega)
    show 0 ≤ dgW t a (k - e) * 38 ^ e + loW t a k e ∧ dgW t a (k - e) * 38 ^ e + loW t a k e < 38 ^ (e + 1)
    rw [Int.pow_succ]
    omega
theorem pK_lo {t : Int → Int} {a : Int} {k : Nat} : ∀ e, e ≤ k → pK t a k = pK t a (k - e) * 38 ^ e + loW t a k e
  | 0, _ => by
    show pK t a k = pK t a (k - 0) * 38 ^ 0 + 0
    simp
  | e + 1, he => by
    have ih := pK_lo (t := t) (a := a) (k := k) e (by omega)
    obtain ⟨j, hj⟩ : ∃ j, k - e = j + 1 := ⟨k - e - 1, by omega⟩
    have hj2 : k - (e + 1) = j := by omega
    rw [hj2]
    show _ = pK t a j * 38 ^ (e + 1) + (dgW t a (k - e) * 38 ^ e + loW t a k e)
    rw [hj] at ih ⊢
    rw [ih]
    show (pK t a j * 38 + pSy (t (a + j + 1))) * 38 ^ e + loW t a k e = _
    rw [Int.pow_succ, Int.add_mul]
    have : pK t a j * 38 * 38 ^ e = pK t a j * (38 ^ e * 38) := by rw [Int.mul_assoc, Int.mul_comm 38]
    rw [this]
    show _ = pK t a j * (38 ^ e * 38) + (pSy (t (a + j + 1)) * 38 ^ e + loW t a k e)
    omega
theorem pK_all {t : Int → Int} {a : Int} {k : Nat} : pK t a k = loW t a k (k + 1) := by
  have := pK_lo (t := t) (a := a) (k := k) k (Nat.le_refl _)
  rw [Nat.sub_self] at this
  rw [this]
  show t a % 32 * 38 ^ k + loW t a k k = dgW t a (k - k) * 38 ^ k + loW t a k k
  rw [Nat.sub_self]
  rfl
theorem fn182_dg {b : Int} {g : rHp} (h : pWc b = true) : fn182 [pSy b] g = (0, b, g) := by
  have r := pSy_rg h
  have e : b = if pSy b > 26 then (if pSy b > 36 then 95 else pSy b + 21) else pSy b + 96 := by
    refine pSy_inj h ?_ ?_
    · unfold pWc pSm pDg
      simp only [Bool.or_eq_true, Bool.and_eq_true, decide_eq_true_eq]
      repeat' split
      all_goals omega
    · generalize pSy b = d at r ⊢
      unfold pSy
      repeat' split
      all_goals omega
  unfold fn182
  simp only [zLet, List.getD_cons_zero]
  by_cases b1 : pSy b > 26
  · rw [if_pos b1] at e ⊢
    by_cases b2 : pSy b > 36
    · rw [if_pos b2] at e ⊢
      rw [← e]
    · rw [if_neg b2] at e ⊢
      rw [← e]
  · rw [if_neg b1] at e ⊢
    rw [← e]
theorem fn182_sm {b : Int} {g : rHp} (h : pSm b = true) : fn182 [b % 32] g = (0, b, g) := by
  simp only [pSm, Bool.and_eq_true, decide_eq_true_eq] at h
  unfold fn182
  simp only [zLet, List.getD_cons_zero]
  rw [if_neg (by omega), show b % 32 + 96 = b by omega]
theorem fn182_at {t : Int → Int} {a : Int} {k : Nat} {g : rHp} (h : pV pSm t a k) : ∀ j : Nat, j ≤ k → fn182 [dgW t a j] g = (0, t (a + j), g)
  | 0, _ => by
    rw [show a + ((0 : Nat) : Int) = a by omega]
    exact fn182_sm h.1
  | j + 1, hj => by
    rw [show a + ((j + 1 : Nat) : Int) = a + j + 1 by omega]
    exact fn182_dg (h.2 j (by omega))
/-- the power of 38 below -/
noncomputable def pwW : Nat → Int
  | 0 => 0
  | e + 1 => 38 ^ e
theorem pwW_div (e : Nat) : (38 : Int) ^ e / 38 = pwW e := by
  cases e with
  | zero => decide
  | succ e =>
    show (38 : Int) ^ (e + 1) / 38 = 38 ^ e
    rw [Int.pow_succ]
    exact Int.mul_ediv_cancel _ (by decide)
theorem fn183_1 {w : Int} {g0 : rHp} {k : Nat} (hk : k ≤ 11) (h1 : (38 : Int) ^ k ≤ w) (h2 : w < 38 ^ (k + 1)) (h3 : w ≤ 9223372036854775807) : ∀ (d i : Nat) (x : Int) (g : rHp), i + d = k → x = (i : Int) + 1 → zLoop (en183 g0) (0, [w, x, 38 ^ i], g) = zLoop (en183 g0) (1, [w, w, 38 ^ k], g) := by
  have w0 : 0 ≤ w := by have := pow38_pos k; omega
  have st : ∀ (x p : Int) (g : rHp), en183 g0 (0, [w, x, p], g) = if x ≥ 12 then .inl (1, [w, w, p], g) else if p > w / 38 then .inl (1, [w, w, p], g) else .inl (0, [w, x + 1, zF2 .lmul p 38], g) := by
    intro x p g
    unfold en183
    simp only [zLet, ↓reduceIte, List.getD_cons_zero, List.getD_cons_succ, ldiv_n w0 h3 (show (1 : Int) ≤ 38 by decide) (by decide)]
  intro d
  induction d with
  | zero =>
    intro i x g hi hx
    have hi : i = k := by omega
    subst hi
    have b : (38 : Int) ^ i > w / 38 := by
      rw [Int.pow_succ] at h2
      exact Int.ediv_lt_of_lt_mul (by decide) h2
    by_cases c12 : x ≥ 12
    · rw [zLoop_inl ((st x _ g).trans (if_pos c12))]
    · rw [zLoop_inl ((st x _ g).trans ((if_neg c12).trans (if_pos b)))]
  | succ d ih =>
    intro i x g hi hx
    have b : ¬ (38 : Int) ^ i > w / 38 := by
      have p1 : (38 : Int) ^ (i + 1) ≤ 38 ^ k := ipow_le (by decide) (by omega)
      rw [Int.pow_succ] at p1
      have : (38 : Int) ^ i ≤ w / 38 := Int.le_ediv_of_mul_le (by decide) (by omega)
      omega
    have p0 := pow38_pos i
    have pw : (38 : Int) ^ (i + 1) ≤ 9065737908494995456 := pow38 (by omega)
    have e : zF2 .lmul (38 ^ i) 38 = 38 ^ (i + 1) := by
      rw [Int.pow_succ] at pw ⊢
      exact zF2_lmul (by omega) (by decide) (by omega)
    rw [zLoop_inl ((st x _ g).trans ((if_neg (by omega)).trans (if_neg b))), e]
    exact ih (i + 1) (x + 1) g (by omega) (by rw [hx]; omega)
theorem fn183_2 {w : Int} {g0 : rHp} {t : Int → Int} {a : Int} {k : Nat} (hk : k ≤ 11) (h : pV pSm t a k) : ∀ (e : Nat) (g : rHp), e ≤ k + 1 → zLoop (en183 g0) (1, [w, loW t a k e, pwW e], g) = (0, 0, plC (wlB t (a + ((k + 1 - e : Nat) : Int)) e) g) := by
  intro e
  induction e with
  | zero =>
    intro g _
    refine zLoop_inr ?_
    unfold en183
    simp only [zLet, ↓reduceIte, List.getD_cons_zero, List.getD_cons_succ, Nat.one_ne_zero]
    rw [if_pos (show pwW 0 ≤ 0 from Int.le_refl 0)]
    rfl
  | succ e ih =>
    intro g he
    obtain ⟨l0, l1⟩ := loW_rg (Or.inl rfl) h e (by omega)
    obtain ⟨d0, d1⟩ := dgW_rg (Or.inl rfl) h (k - e) (by omega)
    have p := pow38_pos e
    have pw : (38 : Int) ^ (e + 1) ≤ 9065737908494995456 := pow38 (by omega)
    have pw2 := pw
    rw [Int.pow_succ] at pw2
    obtain ⟨v0, v1⟩ := loW_rg (Or.inl rfl) h (e + 1) he
    have ev : loW t a k (e + 1) = dgW t a (k - e) * 38 ^ e + loW t a k e := rfl
    have q1 : zF2 .ldiv (loW t a k (e + 1)) (38 ^ e) = dgW t a (k - e) := by
      rw [ldiv_n v0 (by omega) p (by omega), ev, Int.add_comm, Int.add_mul_ediv_right _ _ (by omega), Int.ediv_eq_zero_of_lt l0 l1]
      omega
    have q2 : zF2 .lrem (loW t a k (e + 1)) (38 ^ e) = loW t a k e := by
      rw [lrem_n v0 (by omega) p (by omega), ev, Int.add_comm, Int.add_mul_emod_self_right]
      exact Int.emod_eq_of_lt l0 l1
    have q3 : zF1 .l2i (dgW t a (k - e)) = dgW t a (k - e) := l2i_s (by omega) (by omega)
    have st : en183 g0 (1, [w, loW t a k (e + 1), pwW (e + 1)], g) = .inl (1, [w, loW t a k e, pwW e], pbC (t (a + ((k - e : Nat) : Int))) g) := by
      unfold en183
      simp only [zLet, ↓reduceIte, List.getD_cons_zero, List.getD_cons_succ, Nat.one_ne_zero]
      rw [if_neg (show ¬ pwW (e + 1) ≤ 0 by show ¬ (38 : Int) ^ e ≤ 0; omega), show pwW (e + 1) = 38 ^ e from rfl]
      simp only [q1, q2, q3, fn182_at h (k - e) (by omega), fn181_b, pwW_div]
    rw [zLoop_inl st, ih _ (by omega)]
    rw [show (k + 1 - (e + 1) : Nat) = k - e by omega]
    show _ = (0, 0, plC (t (a + ((k - e : Nat) : Int)) :: wlB t (a + ((k - e : Nat) : Int) + 1) e) g)
    rw [plC_cons, show a + ((k + 1 - e : Nat) : Int) = a + ((k - e : Nat) : Int) + 1 by omega]
/-- a packed word into OUT: its bytes -/
theorem fn183_w {t : Int → Int} {n w f s : Int} {c : rHp} (h : qW pSm t n w f s) : fn183 [w] c = (0, 0, plC (wlB t f s.toNat) c) := by
  obtain ⟨k, k1, k2, k3, k4, k5, k6⟩ := h
  have e1 : w = pK t f k := by rw [k4, pPk_eq (Or.inl rfl) k1 k3]
  obtain ⟨r1, r2⟩ := pK_rg (Or.inl rfl) k3
  have pw := pow38 k1
  have lo : (38 : Int) ^ k ≤ w := by
    have a1 := pK_all (t := t) (a := f) (k := k)
    obtain ⟨l0, l1⟩ := loW_rg (Or.inl rfl) k3 k (by omega)
    obtain ⟨d0, d1⟩ := dgW_rg (Or.inl rfl) k3 0 (by omega)
    have a2 : loW t f k (k + 1) = dgW t f (k - k) * 38 ^ k + loW t f k k := rfl
    rw [Nat.sub_self] at a2
    have p := pow38_pos k
    have : (1 : Int) * 38 ^ k ≤ dgW t f 0 * 38 ^ k := Int.mul_le_mul_of_nonneg_right d0 (by omega)
    omega
  have z : fn183 [w] c = zLoop (en183 c) (0, [w, 1, 1], c) := rfl
  have z1 := fn183_1 (g0 := c) k1 lo (by omega) (by omega) k 0 1 c (by omega) (by decide)
  rw [show (38 : Int) ^ 0 = 1 from rfl] at z1
  rw [z, z1]
  have z2 := fn183_2 (w := w) (g0 := c) k1 k3 (k + 1) c (Nat.le_refl _)
  rw [← pK_all, ← e1, show pwW (k + 1) = 38 ^ k from rfl, show (k + 1 - (k + 1) : Nat) = 0 by omega, show f + ((0 : Nat) : Int) = f by omega] at z2
  rw [z2, show s.toNat = k + 1 by omega]
/-! ===== numbers into OUT ===== -/
theorem pow10_pos (e : Nat) : (1 : Int) ≤ 10 ^ e := by
  have : (0 : Int) < 10 ^ e := Int.pow_pos (by decide)
  omega
/-- the digits of v, e of them, as the class writes them -/
noncomputable def dgL : Nat → Int → List Int
  | 0, _ => []
  | e + 1, v => (48 + v / 10 ^ e) :: dgL e (v % 10 ^ e)
/-- the same, as the reference writes them -/
noncomputable def rfL (v : Int) : Nat → List Int
  | 0 => []
  | e + 1 => (48 + v / 10 ^ e % 10) :: rfL v e
theorem rfL_mod {v : Int} {e : Nat} : ∀ j, j ≤ e → rfL (v % 10 ^ e) j = rfL v j
  | 0, _ => rfl
  | j + 1, hj => by
    show (48 + v % 10 ^ e / 10 ^ j % 10) :: rfL (v % 10 ^ e) j = (48 + v / 10 ^ j % 10) :: rfL v j
    rw [rfL_mod j (by omega)]
    obtain ⟨d, hd⟩ : ∃ d, e = j + 1 + d := ⟨e - (j + 1), by omega⟩
    have pj := pow10_pos j
    have e1 : v = 10 ^ j * (10 * (10 ^ d * (v / 10 ^ e))) + v % 10 ^ e := by
      have := Int.mul_ediv_add_emod v (10 ^ e)
      have q : (10 : Int) ^ e = 10 ^ j * (10 * 10 ^ d) := by
        rw [hd, Int.pow_add, Int.pow_succ, Int.mul_assoc]
      rw [q] at this ⊢
      rw [Int.mul_assoc, Int.mul_assoc] at this
      omega
    have e2 : v / 10 ^ j = 10 * (10 ^ d * (v / 10 ^ e)) + v % 10 ^ e / 10 ^ j := by
      conv => lhs; rw [e1]
      rw [Int.add_comm, Int.add_mul_ediv_left _ _ (by omega), Int.add_comm]
    rw [e2]
    congr 2
    omega
theorem dgL_rf : ∀ (e : Nat) {v : Int}, 0 ≤ v → v < 10 ^ e → dgL e v = rfL v e
  | 0, _, _, _ => rfl
  | e + 1, v, h0, h1 => by
    have p := pow10_pos e
    have b : v / 10 ^ e < 10 := by
      rw [Int.pow_succ, Int.mul_comm] at h1
      exact Int.ediv_lt_of_lt_mul (by omega) h1
    have b0 : 0 ≤ v / 10 ^ e := Int.ediv_nonneg h0 (by omega)
    show (48 + v / 10 ^ e) :: dgL e (v % 10 ^ e) = (48 + v / 10 ^ e % 10) :: rfL v e
    rw [dgL_rf e (Int.emod_nonneg _ (by omega)) (Int.emod_lt_of_pos _ (by omega)), rfL_mod e (Nat.le_refl _), Int.emod_eq_of_lt b0 b]
theorem rfL_len {v : Int} : ∀ {e : Nat}, (rfL v e).length = e
  | 0 => rfl
  | e + 1 => by
    show (rfL v e).length + 1 = _
    rw [rfL_len]
theorem rfL_rg {v : Int} : ∀ {e : Nat}, ∀ b ∈ rfL v e, 48 ≤ b ∧ b ≤ 57
  | 0, b, hb => by cases hb
  | e + 1, b, hb => by
    rcases List.mem_cons.mp hb with rfl | hb
    · omega
    · exact rfL_rg b hb
/-- the power of 10 below -/
noncomputable def pwD : Nat → Int
  | 0 => 0
  | e + 1 => 10 ^ e
theorem pwD_div (e : Nat) : (10 : Int) ^ e / 10 = pwD e := by
  cases e with
  | zero => decide
  | succ e =>
    show (10 : Int) ^ (e + 1) / 10 = 10 ^ e
    rw [Int.pow_succ]
    exact Int.mul_ediv_cancel _ (by decide)
theorem pow10_le {e : Nat} (h : e ≤ 18) : (10 : Int) ^ e ≤ 1000000000000000000 := by
  have : (10 : Int) ^ e ≤ 10 ^ 18 := ipow_le (by decide) h
  exact this
theorem fn184_1 {n v : Int} {g0 : rHp} {k : Nat} (hk : k ≤ 10) (h0 : 0 ≤ v) (h1 : k ≠ 0 → (10 : Int) ^ k ≤ v) (h2 : v < 10 ^ (k + 1)) (h3 : v ≤ 9223372036854775807) : ∀ (d i : Nat) (x : Int) (g : rHp), i + d = k → x = (i : Int) → ∃ y, zLoop (en184 g0) (0, [n, x, 10 ^ i, v], g) = zLoop (en184 g0) (1, [n, y, 10 ^ k, v], g) := by
  have st : ∀ (x p : Int) (g : rHp), en184 g0 (0, [n, x, p, v], g) = if x ≥ 18 then .inl (1, [n, x, p, v], g) else if p > v / 10 then .inl (1, [n, x, p, v], g) else .inl (0, [n, x + 1, zF2 .lmul p 10, v], g) := by
    intro x p g
    unfold en184
    simp only [zLet, ↓reduceIte, List.getD_cons_zero, List.getD_cons_succ, ldiv_n h0 h3 (show (1 : Int) ≤ 10 by decide) (by decide)]
  intro d
  induction d with
  | zero =>
    intro i x g hi hx
    have hi : i = k := by omega
    subst hi
    have b : (10 : Int) ^ i > v / 10 := by
      rw [Int.pow_succ] at h2
      exact Int.ediv_lt_of_lt_mul (by decide) h2
    exact ⟨x, zLoop_inl ((st x _ g).trans ((if_neg (by omega)).trans (if_pos b)))⟩
  | succ d ih =>
    intro i x g hi hx
    have b : ¬ (10 : Int) ^ i > v / 10 := by
      have p1 : (10 : Int) ^ (i + 1) ≤ 10 ^ k := ipow_le (by decide) (by omega)
      rw [Int.pow_succ] at p1
      have hv := h1 (by omega)
      have : (10 : Int) ^ i ≤ v / 10 := Int.le_ediv_of_mul_le (by decide) (by omega)
      omega
    have p0 := pow10_pos i
    have pw : (10 : Int) ^ (i + 1) ≤ 1000000000000000000 := pow10_le (by omega)
    have e : zF2 .lmul (10 ^ i) 10 = 10 ^ (i + 1) := by
      rw [Int.pow_succ] at pw ⊢
      exact zF2_lmul (by omega) (by decide) (by omega)
    obtain ⟨y, hy⟩ := ih (i + 1) (x + 1) g (by omega) (by rw [hx]; omega)
    refine ⟨y, ?_⟩
    rw [zLoop_inl ((st x _ g).trans ((if_neg (by omega)).trans (if_neg b))), e]
    exact hy
theorem fn184_2 {n x : Int} {g0 : rHp} : ∀ (e : Nat) (v : Int) (g : rHp), e ≤ 11 → 0 ≤ v → v < 10 ^ e → v ≤ 2147483648 → zLoop (en184 g0) (1, [n, x, pwD e, v], g) = (0, 0, plC (dgL e v) g) := by
  intro e
  induction e with
  | zero =>
    intro v g _ _ _ _
    refine zLoop_inr ?_
    unfold en184
    simp only [zLet, ↓reduceIte, List.getD_cons_zero, List.getD_cons_succ, Nat.one_ne_zero]
    rw [if_pos (show pwD 0 ≤ 0 from Int.le_refl 0)]
    rfl
  | succ e ih =>
    intro v g he v0 v1 v2
    have p := pow10_pos e
    have pw : (10 : Int) ^ e ≤ 1000000000000000000 := pow10_le (by omega)
    have b0 : 0 ≤ v / 10 ^ e := Int.ediv_nonneg v0 (by omega)
    have b1 : v / 10 ^ e < 10 := by
      rw [Int.pow_succ, Int.mul_comm] at v1
      exact Int.ediv_lt_of_lt_mul (by omega) v1
    have m0 : 0 ≤ v % 10 ^ e := Int.emod_nonneg _ (by omega)
    have m1 : v % 10 ^ e < 10 ^ e := Int.emod_lt_of_pos _ (by omega)
    have m2 : v % 10 ^ e ≤ v := by
      have := Int.mul_ediv_add_emod v (10 ^ e)
      have : 0 ≤ 10 ^ e * (v / 10 ^ e) := Int.mul_nonneg (by omega) b0
      omega
    have q1 : zF2 .ldiv v (10 ^ e) = v / 10 ^ e := ldiv_n v0 (by omega) p (by omega)
    have q2 : zF2 .lrem v (10 ^ e) = v % 10 ^ e := lrem_n v0 (by omega) p (by omega)
    have q3 : zF1 .l2i (v / 10 ^ e) = v / 10 ^ e := l2i_s (by omega) (by omega)
    have q4 : zF2 .iadd 48 (v / 10 ^ e) = 48 + v / 10 ^ e := iadd_n (by omega) (by omega) (by omega) (by omega)
    have st : en184 g0 (1, [n, x, pwD (e + 1), v], g) = .inl (1, [n, x, pwD e, v % 10 ^ e], pbC (48 + v / 10 ^ e) g) := by
      unfold en184
      simp only [zLet, ↓reduceIte, List.getD_cons_zero, List.getD_cons_succ, Nat.one_ne_zero]
      rw [if_neg (show ¬ pwD (e + 1) ≤ 0 by show ¬ (10 : Int) ^ e ≤ 0; omega), show pwD (e + 1) = 10 ^ e from rfl]
      simp only [q1, q2, q3, q4, fn181_b, pwD_div]
    rw [zLoop_inl st, ih _ _ (by omega) m0 m1 (by omega)]
    rfl
/-- how many digits v has, less one -/
noncomputable def kOf (v : Int) : Nat := if v < 10 then 0 else if v < 100 then 1 else if v < 1000 then 2 else if v < 10000 then 3 else if v < 100000 then 4 else if v < 1000000 then 5 else if v < 10000000 then 6 else if v < 100000000 then 7 else if v < 1000000000 then 8 else 9
theorem kOf_all {v : Int} (h0 : 0 ≤ v) (h1 : v ≤ 2147483648) : kOf v ≤ 9 ∧ (kOf v ≠ 0 → (10 : Int) ^ kOf v ≤ v) ∧ v < 10 ^ (kOf v + 1) := by
  unfold kOf
  by_cases b0 : v < 10
  · rw [if_pos b0]
    exact ⟨by decide, fun z => absurd rfl z, by show v < (10 : Int); omega⟩
  by_cases b1 : v < 100
  · rw [if_neg b0, if_pos b1]
    exact ⟨by decide, fun _ => by show (10 : Int) ≤ v; omega, by show v < (100 : Int); omega⟩
  by_cases b2 : v < 1000
  · rw [if_neg b0, if_neg b1, if_pos b2]
    exact ⟨by decide, fun _ => by show (100 : Int) ≤ v; omega, by show v < (1000 : Int); omega⟩
  by_cases b3 : v < 10000
  · rw [if_neg b0, if_neg b1, if_neg b2, if_pos b3]
    exact ⟨by decide, fun _ => by show (1000 : Int) ≤ v; omega, by show v < (10000 : Int); omega⟩
  by_cases b4 : v < 100000
  · rw [if_neg b0, if_neg b1, if_neg b2, if_neg b3, if_pos b4]
    exact ⟨by decide, fun _ => by show (10000 : Int) ≤ v; omega, by show v < (100000 : Int); omega⟩
  by_cases b5 : v < 1000000
  · rw [if_neg b0, if_neg b1, if_neg b2, if_neg b3, if_neg b4, if_pos b5]
    exact ⟨by decide, fun _ => by show (100000 : Int) ≤ v; omega, by show v < (1000000 : Int); omega⟩
  by_cases b6 : v < 10000000
  · rw [if_neg b0, if_neg b1, if_neg b2, if_neg b3, if_neg b4, if_neg b5, if_pos b6]
    exact ⟨by decide, fun _ => by show (1000000 : Int) ≤ v; omega, by show v < (10000000 : Int); omega⟩
  by_cases b7 : v < 100000000
  · rw [if_neg b0, if_neg b1, if_neg b2, if_neg b3, if_neg b4, if_neg b5, if_neg b6, if_pos b7]
    exact ⟨by decide, fun _ => by show (10000000 : Int) ≤ v; omega, by show v < (100000000 : Int); omega⟩
  by_cases b8 : v < 1000000000
  · rw [if_neg b0, if_neg b1, if_neg b2, if_neg b3, if_neg b4, if_neg b5, if_neg b6, if_neg b7, if_pos b8]
    exact ⟨by decide, fun _ => by show (100000000 : Int) ≤ v; omega, by show v < (1000000000 : Int); omega⟩
  rw [if_neg b0, if_neg b1, if_neg b2, if_neg b3, if_neg b4, if_neg b5, if_neg b6, if_neg b7, if_neg b8]
  exact ⟨by decide, fun _ => by show (1000000000 : Int) ≤ v; omega, by show v < (10000000000 : Int); omega⟩
/-- a number as it is written -/
noncomputable def nmL (v : Int) : List Int := if v < 0 then 45 :: rfL (-v) (kOf (-v) + 1) else rfL v (kOf v + 1)
theorem nmL_ok {v : Int} (h0 : -2147483648 ≤ v) (h1 : v ≤ 2147483647) : (nmL v).length ≤ 11 ∧ ∀ b ∈ nmL v, 0 ≤ b ∧ b ≤ 127 := by
  unfold nmL
  by_cases n : v < 0
  · rw [if_pos n]
    have := (kOf_all (v := -v) (by omega) (by omega)).1
    refine ⟨by rw [List.length_cons, rfL_len]; omega, fun b hb => ?_⟩
    rcases List.mem_cons.mp hb with rfl | hb
    · decide
    · have := rfL_rg b hb
      omega
  · rw [if_neg n]
    have := (kOf_all (v := v) (by omega) (by omega)).1
    refine ⟨by rw [rfL_len]; omega, fun b hb => ?_⟩
    have := rfL_rg b hb
    omega
theorem fn184_p {n v : Int} {g0 g : rHp} (h0 : 0 ≤ v) (h1 : v ≤ 2147483648) : zLoop (en184 g0) (0, [n, 0, 1, v], g) = (0, 0, plC (rfL v (kOf v + 1)) g) := by
  obtain ⟨k1, k2, k3⟩ := kOf_all h0 h1
  obtain ⟨y, hy⟩ := fn184_1 (n := n) (g0 := g0) (by omega) h0 k2 k3 (by omega) (kOf v) 0 0 g (by omega) (by decide)
  rw [show (10 : Int) ^ 0 = 1 from rfl] at hy
  rw [hy]
  have z := fn184_2 (n := n) (x := y) (g0 := g0) (kOf v + 1) v g (by omega) h0 k3 h1
  rw [dgL_rf _ h0 k3] at z
  exact z
/-- a number into OUT, by the class -/
theorem fn184_n {v : Int} {c : rHp} (h0 : -2147483648 ≤ v) (h1 : v ≤ 2147483647) : fn184 [v] c = (0, 0, plC (nmL v) c) := by
  unfold fn184 dn184 nmL
  simp only [zLet, List.getD_cons_zero]
  by_cases n : v < 0
  · rw [if_neg (show ¬ v ≥ 0 by omega), if_pos n, lneg_n (by omega) (by omega), fn181_b]
    show zLoop (en184 c) (0, [v, 0, 1, -v], pbC 45 c) = _
    rw [fn184_p (by omega) (by omega), plC_cons]
  · rw [if_pos (show v ≥ 0 by omega), if_neg n]
    show zLoop (en184 c) (0, [v, 0, 1, v], c) = _
    rw [fn184_p (by omega) (by omega)]
theorem dg_one {x : Int} (h0 : 0 ≤ x) (h1 : x ≤ 2147483648) (m : rHp) : fn87 [zF1 .l2i (zF2 .ladd 48 (zF2 .lrem x 10))] m = (0, 0, pbM (48 + x % 10) m) := by
  rw [lrem_n h0 (by omega) (by decide) (by decide), ladd_g (by omega) (by omega), l2i_s (by omega) (by omega), fn87_b]
/-- a number into OUT, by the reference -/
theorem fn88_n {v : Int} {m : rHp} (h0 : -2147483648 ≤ v) (h1 : v ≤ 2147483647) : fn88 [v] m = (0, 0, plM (nmL v) m) := by
  unfold fn88 nmL
  simp only [zLet, List.getD_cons_zero]
  by_cases n : v < 0
  · rw [if_neg (show ¬ v ≥ 0 by omega), if_pos n, lneg_n (by omega) (by omega), show fn87 [45] m = (0, 0, pbM 45 m) from fn87_b, plM_cons]
    dsimp only
    generalize pbM 45 m = m1
    obtain ⟨w, hw⟩ : ∃ w, -v = w := ⟨_, rfl⟩
    rw [hw]
    have w0 : 0 ≤ w := by omega
    have w1 : w ≤ 2147483648 := by omega
    clear hw n h0 h1
    by_cases b0 : w < 10
    · have hk : kOf w = 0 := by unfold kOf; rw [if_pos b0]
      rw [hk, if_pos (show w / 1 ≤ 9 by omega)]
      rw [dg_one (x := w / 1) (by omega) (by omega)]
      rfl
    by_cases b1 : w < 100
    · have hk : kOf w = 1 := by unfold kOf; rw [if_neg b0, if_pos b1]
      rw [hk, if_neg (show ¬ w / 1 ≤ 9 by omega), if_pos (show w / 10 ≤ 9 by omega)]
      rw [dg_one (x := w / 10) (by omega) (by omega), dg_one (x := w / 1) (by omega) (by omega)]
      rfl
    by_cases b2 : w < 1000
    · have hk : kOf w = 2 := by unfold kOf; rw [if_neg b0, if_neg b1, if_pos b2]
      rw [hk, if_neg (show ¬ w / 1 ≤ 9 by omega), if_neg (show ¬ w / 10 ≤ 9 by omega), if_pos (show w / 100 ≤ 9 by omega)]
      rw [dg_one (x := w / 100) (by omega) (by omega), dg_one (x := w / 10) (by omega) (by omega), dg_one (x := w / 1) (by omega) (by omega)]
      rfl
    by_cases b3 : w < 10000
    · have hk : kOf w = 3 := by unfold kOf; rw [if_neg b0, if_neg b1, if_neg b2, if_pos b3]
      rw [hk, if_neg (show ¬ w / 1 ≤ 9 by omega), if_neg (show ¬ w / 10 ≤ 9 by omega), if_neg (show ¬ w / 100 ≤ 9 by omega), if_pos (show w / 1000 ≤ 9 by omega)]
      rw [dg_one (x := w / 1000) (by omega) (by omega), dg_one (x := w / 100) (by omega) (by omega), dg_one (x := w / 10) (by omega) (by omega), dg_one (x := w / 1) (by omega) (by omega)]
      rfl
    by_cases b4 : w < 100000
    · have hk : kOf w = 4 := by unfold kOf; rw [if_neg b0, if_neg b1, if_neg b2, if_neg b3, if_pos b4]
      rw [hk, if_neg (show ¬ w / 1 ≤ 9 by omega), if_neg (show ¬ w / 10 ≤ 9 by omega), if_neg (show ¬ w / 100 ≤ 9 by omega), if_neg (show ¬ w / 1000 ≤ 9 by omega), if_pos (show w / 10000 ≤ 9 by omega)]
      rw [dg_one (x := w / 10000) (by omega) (by omega), dg_one (x := w / 1000) (by omega) (by omega), dg_one (x := w / 100) (by omega) (by omega), dg_one (x := w / 10) (by omega) (by omega), dg_one (x := w / 1) (by omega) (by omega)]
      rfl
    by_cases b5 : w < 1000000
    · have hk : kOf w = 5 := by unfold kOf; rw [if_neg b0, if_neg b1, if_neg b2, if_neg b3, if_neg b4, if_pos b5]
      rw [hk, if_neg (show ¬ w / 1 ≤ 9 by omega), if_neg (show ¬ w / 10 ≤ 9 by omega), if_neg (show ¬ w / 100 ≤ 9 by omega), if_neg (show ¬ w / 1000 ≤ 9 by omega), if_neg (show ¬ w / 10000 ≤ 9 by omega), if_pos (show w / 100000 ≤ 9 by omega)]
      rw [dg_one (x := w / 100000) (by omega) (by omega), dg_one (x := w / 10000) (by omega) (by omega), dg_one (x := w / 1000) (by omega) (by omega), dg_one (x := w / 100) (by omega) (by omega), dg_one (x := w / 10) (by omega) (by omega), dg_one (x := w / 1) (by omega) (by omega)]
      rfl
    by_cases b6 : w < 10000000
    · have hk : kOf w = 6 := by unfold kOf; rw [if_neg b0, if_neg b1, if_neg b2, if_neg b3, if_neg b4, if_neg b5, if_pos b6]
      rw [hk, if_neg (show ¬ w / 1 ≤ 9 by omega), if_neg (show ¬ w / 10 ≤ 9 by omega), if_neg (show ¬ w / 100 ≤ 9 by omega), if_neg (show ¬ w / 1000 ≤ 9 by omega), if_neg (show ¬ w / 10000 ≤ 9 by omega), if_neg (show ¬ w / 100000 ≤ 9 by omega), if_pos (show w / 1000000 ≤ 9 by omega)]
      rw [dg_one (x := w / 1000000) (by omega) (by omega), dg_one (x := w / 100000) (by omega) (by omega), dg_one (x := w / 10000) (by omega) (by omega), dg_one (x := w / 1000) (by omega) (by omega), dg_one (x := w / 100) (by omega) (by omega), dg_one (x := w / 10) (by omega) (by omega), dg_one (x := w / 1) (by omega) (by omega)]
      rfl
    by_cases b7 : w < 100000000
    · have hk : kOf w = 7 := by unfold kOf; rw [if_neg b0, if_neg b1, if_neg b2, if_neg b3, if_neg b4, if_neg b5, if_neg b6, if_pos b7]
      rw [hk, if_neg (show ¬ w / 1 ≤ 9 by omega), if_neg (show ¬ w / 10 ≤ 9 by omega), if_neg (show ¬ w / 100 ≤ 9 by omega), if_neg (show ¬ w / 1000 ≤ 9 by omega), if_neg (show ¬ w / 10000 ≤ 9 by omega), if_neg (show ¬ w / 100000 ≤ 9 by omega), if_neg (show ¬ w / 1000000 ≤ 9 by omega), if_pos (show w / 10000000 ≤ 9 by omega)]
      rw [dg_one (x := w / 10000000) (by omega) (by omega), dg_one (x := w / 1000000) (by omega) (by omega), dg_one (x := w / 100000) (by omega) (by omega), dg_one (x := w / 10000) (by omega) (by omega), dg_one (x := w / 1000) (by omega) (by omega), dg_one (x := w / 100) (by omega) (by omega), dg_one (x := w / 10) (by omega) (by omega), dg_one (x := w / 1) (by omega) (by omega)]
      rfl
    by_cases b8 : w < 1000000000
    · have hk : kOf w = 8 := by unfold kOf; rw [if_neg b0, if_neg b1, if_neg b2, if_neg b3, if_neg b4, if_neg b5, if_neg b6, if_neg b7, if_pos b8]
      rw [hk, if_neg (show ¬ w / 1 ≤ 9 by omega), if_neg (show ¬ w / 10 ≤ 9 by omega), if_neg (show ¬ w / 100 ≤ 9 by omega), if_neg (show ¬ w / 1000 ≤ 9 by omega), if_neg (show ¬ w / 10000 ≤ 9 by omega), if_neg (show ¬ w / 100000 ≤ 9 by omega), if_neg (show ¬ w / 1000000 ≤ 9 by omega), if_neg (show ¬ w / 10000000 ≤ 9 by omega), if_pos (show w / 100000000 ≤ 9 by omega)]
      rw [dg_one (x := w / 100000000) (by omega) (by omega), dg_one (x := w / 10000000) (by omega) (by omega), dg_one (x := w / 1000000) (by omega) (by omega), dg_one (x := w / 100000) (by omega) (by omega), dg_one (x := w / 10000) (by omega) (by omega), dg_one (x := w / 1000) (by omega) (by omega), dg_one (x := w / 100) (by omega) (by omega), dg_one (x := w / 10) (by omega) (by omega), dg_one (x := w / 1) (by omega) (by omega)]
      rfl
    have hk : kOf w = 9 := by unfold kOf; rw [if_neg b0, if_neg b1, if_neg b2, if_neg b3, if_neg b4, if_neg b5, if_neg b6, if_neg b7, if_neg b8]
    rw [hk, if_neg (show ¬ w / 1 ≤ 9 by omega), if_neg (show ¬ w / 10 ≤ 9 by omega), if_neg (show ¬ w / 100 ≤ 9 by omega), if_neg (show ¬ w / 1000 ≤ 9 by omega), if_neg (show ¬ w / 10000 ≤ 9 by omega), if_neg (show ¬ w / 100000 ≤ 9 by omega), if_neg (show ¬ w / 1000000 ≤ 9 by omega), if_neg (show ¬ w / 10000000 ≤ 9 by omega), if_neg (show ¬ w / 100000000 ≤ 9 by omega)]
    rw [dg_one (x := w / 1000000000) (by omega) (by omega), dg_one (x := w / 100000000) (by omega) (by omega), dg_one (x := w / 10000000) (by omega) (by omega), dg_one (x := w / 1000000) (by omega) (by omega), dg_one (x := w / 100000) (by omega) (by omega), dg_one (x := w / 10000) (by omega) (by omega), dg_one (x := w / 1000) (by omega) (by omega), dg_one (x := w / 100) (by omega) (by omega), dg_one (x := w / 10) (by omega) (by omega), dg_one (x := w / 1) (by omega) (by omega)]
    rfl
  · rw [if_pos (show v ≥ 0 by omega), if_neg n]
    by_cases b0 : v < 10
    · have hk : kOf v = 0 := by unfold kOf; rw [if_pos b0]
      rw [hk, if_pos (show v / 1 ≤ 9 by omega)]
      rw [dg_one (x := v / 1) (by omega) (by omega)]
      rfl
    by_cases b1 : v < 100
    · have hk : kOf v = 1 := by unfold kOf; rw [if_neg b0, if_pos b1]
      rw [hk, if_neg (show ¬ v / 1 ≤ 9 by omega), if_pos (show v / 10 ≤ 9 by omega)]
      rw [dg_one (x := v / 10) (by omega) (by omega), dg_one (x := v / 1) (by omega) (by omega)]
      rfl
    by_cases b2 : v < 1000
    · have hk : kOf v = 2 := by unfold kOf; rw [if_neg b0, if_neg b1, if_pos b2]
      rw [hk, if_neg (show ¬ v / 1 ≤ 9 by omega), if_neg (show ¬ v / 10 ≤ 9 by omega), if_pos (show v / 100 ≤ 9 by omega)]
      rw [dg_one (x := v / 100) (by omega) (by omega), dg_one (x := v / 10) (by omega) (by omega), dg_one (x := v / 1) (by omega) (by omega)]
      rfl
    by_cases b3 : v < 10000
    · have hk : kOf v = 3 := by unfold kOf; rw [if_neg b0, if_neg b1, if_neg b2, if_pos b3]
      rw [hk, if_neg (show ¬ v / 1 ≤ 9 by omega), if_neg (show ¬ v / 10 ≤ 9 by omega), if_neg (show ¬ v / 100 ≤ 9 by omega), if_pos (show v / 1000 ≤ 9 by omega)]
      rw [dg_one (x := v / 1000) (by omega) (by omega), dg_one (x := v / 100) (by omega) (by omega), dg_one (x := v / 10) (by omega) (by omega), dg_one (x := v / 1) (by omega) (by omega)]
      rfl
    by_cases b4 : v < 100000
    · have hk : kOf v = 4 := by unfold kOf; rw [if_neg b0, if_neg b1, if_neg b2, if_neg b3, if_pos b4]
      rw [hk, if_neg (show ¬ v / 1 ≤ 9 by omega), if_neg (show ¬ v / 10 ≤ 9 by omega), if_neg (show ¬ v / 100 ≤ 9 by omega), if_neg (show ¬ v / 1000 ≤ 9 by omega), if_pos (show v / 10000 ≤ 9 by omega)]
      rw [dg_one (x := v / 10000) (by omega) (by omega), dg_one (x := v / 1000) (by omega) (by omega), dg_one (x := v / 100) (by omega) (by omega), dg_one (x := v / 10) (by omega) (by omega), dg_one (x := v / 1) (by omega) (by omega)]
      rfl
    by_cases b5 : v < 1000000
    · have hk : kOf v = 5 := by unfold kOf; rw [if_neg b0, if_neg b1, if_neg b2, if_neg b3, if_neg b4, if_pos b5]
      rw [hk, if_neg (show ¬ v / 1 ≤ 9 by omega), if_neg (show ¬ v / 10 ≤ 9 by omega), if_neg (show ¬ v / 100 ≤ 9 by omega), if_neg (show ¬ v / 1000 ≤ 9 by omega), if_neg (show ¬ v / 10000 ≤ 9 by omega), if_pos (show v / 100000 ≤ 9 by omega)]
      rw [dg_one (x := v / 100000) (by omega) (by omega), dg_one (x := v / 10000) (by omega) (by omega), dg_one (x := v / 1000) (by omega) (by omega), dg_one (x := v / 100) (by omega) (by omega), dg_one (x := v / 10) (by omega) (by omega), dg_one (x := v / 1) (by omega) (by omega)]
      rfl
    by_cases b6 : v < 10000000
    · have hk : kOf v = 6 := by unfold kOf; rw [if_neg b0, if_neg b1, if_neg b2, if_neg b3, if_neg b4, if_neg b5, if_pos b6]
      rw [hk, if_neg (show ¬ v / 1 ≤ 9 by omega), if_neg (show ¬ v / 10 ≤ 9 by omega), if_neg (show ¬ v / 100 ≤ 9 by omega), if_neg (show ¬ v / 1000 ≤ 9 by omega), if_neg (show ¬ v / 10000 ≤ 9 by omega), if_neg (show ¬ v / 100000 ≤ 9 by omega), if_pos (show v / 1000000 ≤ 9 by omega)]
      rw [dg_one (x := v / 1000000) (by omega) (by omega), dg_one (x := v / 100000) (by omega) (by omega), dg_one (x := v / 10000) (by omega) (by omega), dg_one (x := v / 1000) (by omega) (by omega), dg_one (x := v / 100) (by omega) (by omega), dg_one (x := v / 10) (by omega) (by omega), dg_one (x := v / 1) (by omega) (by omega)]
      rfl
    by_cases b7 : v < 100000000
    · have hk : kOf v = 7 := by unfold kOf; rw [if_neg b0, if_neg b1, if_neg b2, if_neg b3, if_neg b4, if_neg b5, if_neg b6, if_pos b7]
      rw [hk, if_neg (show ¬ v / 1 ≤ 9 by omega), if_neg (show ¬ v / 10 ≤ 9 by omega), if_neg (show ¬ v / 100 ≤ 9 by omega), if_neg (show ¬ v / 1000 ≤ 9 by omega), if_neg (show ¬ v / 10000 ≤ 9 by omega), if_neg (show ¬ v / 100000 ≤ 9 by omega), if_neg (show ¬ v / 1000000 ≤ 9 by omega), if_pos (show v / 10000000 ≤ 9 by omega)]
      rw [dg_one (x := v / 10000000) (by omega) (by omega), dg_one (x := v / 1000000) (by omega) (by omega), dg_one (x := v / 100000) (by omega) (by omega), dg_one (x := v / 10000) (by omega) (by omega), dg_one (x := v / 1000) (by omega) (by omega), dg_one (x := v / 100) (by omega) (by omega), dg_one (x := v / 10) (by omega) (by omega), dg_one (x := v / 1) (by omega) (by omega)]
      rfl
    by_cases b8 : v < 1000000000
    · have hk : kOf v = 8 := by unfold kOf; rw [if_neg b0, if_neg b1, if_neg b2, if_neg b3, if_neg b4, if_neg b5, if_neg b6, if_neg b7, if_pos b8]
      rw [hk, if_neg (show ¬ v / 1 ≤ 9 by omega), if_neg (show ¬ v / 10 ≤ 9 by omega), if_neg (show ¬ v / 100 ≤ 9 by omega), if_neg (show ¬ v / 1000 ≤ 9 by omega), if_neg (show ¬ v / 10000 ≤ 9 by omega), if_neg (show ¬ v / 100000 ≤ 9 by omega), if_neg (show ¬ v / 1000000 ≤ 9 by omega), if_neg (show ¬ v / 10000000 ≤ 9 by omega), if_pos (show v / 100000000 ≤ 9 by omega)]
      rw [dg_one (x := v / 100000000) (by omega) (by omega), dg_one (x := v / 10000000) (by omega) (by omega), dg_one (x := v / 1000000) (by omega) (by omega), dg_one (x := v / 100000) (by omega) (by omega), dg_one (x := v / 10000) (by omega) (by omega), dg_one (x := v / 1000) (by omega) (by omega), dg_one (x := v / 100) (by omega) (by omega), dg_one (x := v / 10) (by omega) (by omega), dg_one (x := v / 1) (by omega) (by omega)]
      rfl
    have hk : kOf v = 9 := by unfold kOf; rw [if_neg b0, if_neg b1, if_neg b2, if_neg b3, if_neg b4, if_neg b5, if_neg b6, if_neg b7, if_neg b8]
    rw [hk, if_neg (show ¬ v / 1 ≤ 9 by omega), if_neg (show ¬ v / 10 ≤ 9 by omega), if_neg (show ¬ v / 100 ≤ 9 by omega), if_neg (show ¬ v / 1000 ≤ 9 by omega), if_neg (show ¬ v / 10000 ≤ 9 by omega), if_neg (show ¬ v / 100000 ≤ 9 by omega), if_neg (show ¬ v / 1000000 ≤ 9 by omega), if_neg (show ¬ v / 10000000 ≤ 9 by omega), if_neg (show ¬ v / 100000000 ≤ 9 by omega), if_pos (show v / 1000000000 ≤ 9 by omega)]
    rw [dg_one (x := v / 1000000000) (by omega) (by omega), dg_one (x := v / 100000000) (by omega) (by omega), dg_one (x := v / 10000000) (by omega) (by omega), dg_one (x := v / 1000000) (by omega) (by omega), dg_one (x := v / 100000) (by omega) (by omega), dg_one (x := v / 10000) (by omega) (by omega), dg_one (x := v / 1000) (by omega) (by omega), dg_one (x := v / 100) (by omega) (by omega), dg_one (x := v / 10) (by omega) (by omega), dg_one (x := v / 1) (by omega) (by omega)]
    rfl
