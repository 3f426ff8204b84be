/-! ===== words as numbers of base 38: the same number, the same word ===== -/
theorem zL_of {a : Int} (h1 : -9223372036854775808 ≤ a) (h2 : a ≤ 9223372036854775807) : (Int64.ofInt a).toInt = a := by
  rw [Int64.toInt_ofInt]
  exact aB64 h1 h2
theorem zF2_lmul {a b : Int} (ha : -9223372036854775808 ≤ a ∧ a ≤ 9223372036854775807) (hb : -9223372036854775808 ≤ b ∧ b ≤ 9223372036854775807) (hc : -9223372036854775808 ≤ a * b ∧ a * b ≤ 9223372036854775807) : zF2 .lmul a b = a * b := by
  show (Int64.ofInt a * Int64.ofInt b).toInt = a * b
  rw [Int64.toInt_mul, zL_of ha.1 ha.2, zL_of hb.1 hb.2]
  exact aB64 hc.1 hc.2
theorem zF2_ladd {a b : Int} (ha : -9223372036854775808 ≤ a ∧ a ≤ 9223372036854775807) (hb : -9223372036854775808 ≤ b ∧ b ≤ 9223372036854775807) (hc : -9223372036854775808 ≤ a + b ∧ a + b ≤ 9223372036854775807) : zF2 .ladd a b = a + b := by
  show (Int64.ofInt a + Int64.ofInt b).toInt = a + b
  rw [Int64.toInt_add, zL_of ha.1 ha.2, zL_of hb.1 hb.2]
  exact aB64 hc.1 hc.2
set_option maxRecDepth 100000 in
theorem zF2_and31f : ∀ n : Fin 256, zF2 .iand ((n.val : Int) - 128) 31 = ((n.val : Int) - 128) % 32 ∧ zF2 .iand ((n.val : Int) - 128) 255 = ((n.val : Int) - 128) % 256 := by decide +kernel
theorem zF2_and31 {c : Int} (h1 : -128 ≤ c) (h2 : c ≤ 127) : zF2 .iand c 31 = c % 32 := by
  have := (zF2_and31f ⟨(c + 128).toNat, by omega⟩).1
  rw [show (((c + 128).toNat : Nat) : Int) - 128 = c by omega] at this
  exact this
theorem zF2_and255 {c : Int} (h1 : -128 ≤ c) (h2 : c ≤ 127) : zF2 .iand c 255 = c % 256 := by
  have := (zF2_and31f ⟨(c + 128).toNat, by omega⟩).2
  rw [show (((c + 128).toNat : Nat) : Int) - 128 = c by omega] at this
  exact this
/-- a word: its first byte is as q says, k bytes of a word follow -/
noncomputable def pV (q : Int → Bool) (t : Int → Int) (a : Int) (k : Nat) : Prop := q (t a) = true ∧ ∀ j : Nat, j < k → pWc (t (a + j + 1)) = true
noncomputable def pLt (q : Int → Bool) : Prop := q = pSm ∨ q = pCa
theorem pLt_rg {q : Int → Bool} (h : pLt q) {c : Int} (hc : q c = true) : 65 ≤ c ∧ c ≤ 122 ∧ 1 ≤ c % 32 ∧ c % 32 ≤ 26 := by
  rcases h with rfl | rfl
  · simp only [pSm, Bool.and_eq_true, decide_eq_true_eq] at hc
    omega
  · simp only [pCa, Bool.and_eq_true, decide_eq_true_eq] at hc
    omega
theorem pLt_inj {q : Int → Bool} (h : pLt q) {c d : Int} (hc : q c = true) (hd : q d = true) (e : c % 32 = d % 32) : c = d := by
  rcases h with rfl | rfl
  · simp only [pSm, Bool.and_eq_true, decide_eq_true_eq] at hc hd
    omega
  · simp only [pCa, Bool.and_eq_true, decide_eq_true_eq] at hc hd
    omega
noncomputable def pK (t : Int → Int) (a : Int) : Nat → Int
  | 0 => t a % 32
  | k + 1 => pK t a k * 38 + pSy (t (a + k + 1))
theorem pV_less {q : Int → Bool} {t : Int → Int} {a : Int} {k : Nat} (h : pV q t a (k + 1)) : pV q t a k ∧ pWc (t (a + k + 1)) = true := ⟨⟨h.1, fun j hj => h.2 j (by omega)⟩, h.2 k (by omega)⟩
theorem pK_rg {q : Int → Bool} (hq : pLt q) {t : Int → Int} {a : Int} : ∀ {k : Nat}, pV q t a k → 1 ≤ pK t a k ∧ pK t a k + 1 ≤ (38 : Int) ^ (k + 1)
  | 0, h => by
    have := pLt_rg hq h.1
    refine ⟨this.2.2.1, ?_⟩
    show t a % 32 + 1 ≤ _
    simp
    omega
  | k + 1, h => by
    obtain ⟨h1, h2⟩ := pV_less h
    obtain ⟨i1, i2⟩ := pK_rg hq h1
    have h3 := pSy_rg h2
    show 1 ≤ pK t a k * 38 + _ ∧ pK t a k * 38 + _ + 1 ≤ _
    rw [Int.pow_succ]
    omega
theorem pow38 {k : Nat} (h : k ≤ 11) : (38 : Int) ^ (k + 1) ≤ 9065737908494995456 := by
  have : k = 0 ∨ k = 1 ∨ k = 2 ∨ k = 3 ∨ k = 4 ∨ k = 5 ∨ k = 6 ∨ k = 7 ∨ k = 8 ∨ k = 9 ∨ k = 10 ∨ k = 11 := by omega
  rcases this with rfl | rfl | rfl | rfl | rfl | rfl | rfl | rfl | rfl | rfl | rfl | rfl <;> decide
theorem pPk_eq {q : Int → Bool} (hq : pLt q) {t : Int → Int} {a : Int} : ∀ {k : Nat}, k ≤ 11 → pV q t a k → pPk t a k = pK t a k
  | 0, _, h => by
    have := pLt_rg hq h.1
    exact zF2_and31 (by omega) (by omega)
  | k + 1, hk, h => by
    obtain ⟨h1, h2⟩ := pV_less h
    have i0 := pK_rg hq h
    have i1 := pK_rg hq h1
    have i2 := pow38 hk
    have h3 := pSy_rg h2
    have e : pK t a (k + 1) = pK t a k * 38 + pSy (t (a + k + 1)) := rfl
    show zF2 .ladd (zF2 .lmul (pPk t a k) 38) _ = _
    rw [pPk_eq hq (by omega) h1, zF2_lmul (by omega) (by omega) (by omega), zF2_ladd (by omega) (by omega) (by omega), e]
theorem pK_inj {q : Int → Bool} (hq : pLt q) {t t_q : Int → Int} {a a_q : Int} : ∀ {k k_q : Nat}, pV q t a k → pV q t_q a_q k_q → pK t a k = pK t_q a_q k_q → k = k_q ∧ t a = t_q a_q ∧ ∀ j : Nat, j < k → t (a + j + 1) = t_q (a_q + j + 1)
  | 0, 0, h, h_q, e => ⟨rfl, pLt_inj hq h.1 h_q.1 e, fun j hj => by omega⟩
  | 0, k_q + 1, h, h_q, e => by
    exfalso
    obtain ⟨h1, h2⟩ := pV_less h_q
    have i1 := pK_rg hq h1
    have h3 := pSy_rg h2
    have h4 := pLt_rg hq h.1
    have e1 : t a % 32 = pK t_q a_q k_q * 38 + pSy (t_q (a_q + k_q + 1)) := e
    omega
  | k + 1, 0, h, h_q, e => by
    exfalso
    obtain ⟨h1, h2⟩ := pV_less h
    have i1 := pK_rg hq h1
    have h3 := pSy_rg h2
    have h4 := pLt_rg hq h_q.1
    have e1 : pK t a k * 38 + pSy (t (a + k + 1)) = t_q a_q % 32 := e
    omega
  | k + 1, k_q + 1, h, h_q, e => by
    obtain ⟨h1, h2⟩ := pV_less h
    obtain ⟨h1_q, h2_q⟩ := pV_less h_q
    have h3 := pSy_rg h2
    have h3_q := pSy_rg h2_q
    have e1 : pK t a k * 38 + pSy (t (a + k + 1)) = pK t_q a_q k_q * 38 + pSy (t_q (a_q + k_q + 1)) := e
    obtain ⟨e2, e3, e4⟩ := pK_inj hq h1 h1_q (by omega)
    subst e2
    have e5 := pSy_inj h2 h2_q (by omega)
    refine ⟨rfl, e3, fun j hj => ?_⟩
    by_cases hjk : j = k
    · rw [hjk]; exact e5
    · exact e4 j (by omega)
theorem pK_congr {t t_q : Int → Int} {a a_q : Int} : ∀ {k : Nat}, t a = t_q a_q → (∀ j : Nat, j < k → t (a + j + 1) = t_q (a_q + j + 1)) → pK t a k = pK t_q a_q k
  | 0, h, _ => by
    show t a % 32 = t_q a_q % 32
    rw [h]
  | k + 1, h, h2 => by
    show pK t a k * 38 + _ = pK t_q a_q k * 38 + _
    rw [pK_congr h (fun j hj => h2 j (by omega)), h2 k (by omega)]
/-- two words are the same number just when they are the same bytes -/
theorem pPk_iff {q : Int → Bool} (hq : pLt q) {t t_q : Int → Int} {a a_q : Int} {k k_q : Nat} (hk : k ≤ 11) (hk_q : k_q ≤ 11) (h : pV q t a k) (h_q : pV q t_q a_q k_q) : pPk t a k = pPk t_q a_q k_q ↔ (k_q : Int) + 1 = k + 1 ∧ pSame t a t_q a_q (k + 1) = true := by
  rw [pPk_eq hq hk h, pPk_eq hq hk_q h_q, pSame_iff]
  constructor
  · intro e
    obtain ⟨e1, e2, e3⟩ := pK_inj hq h h_q e
    refine ⟨by omega, fun j h0 h1 => ?_⟩
    by_cases hj : j = 0
    · rw [hj, Int.zero_add, Int.zero_add]; exact e2
    · have := e3 (j - 1).toNat (by omega)
      rw [show a + (((j - 1).toNat : Nat) : Int) + 1 = j + a by omega, show a_q + (((j - 1).toNat : Nat) : Int) + 1 = j + a_q by omega] at this
      exact this
  · rintro ⟨e1, e2⟩
    have e1 : k = k_q := by omega
    subst e1
    refine pK_congr ?_ (fun j hj => ?_)
    · have := e2 0 (Int.le_refl _) (by omega)
      rw [Int.zero_add, Int.zero_add] at this
      exact this
    · have := e2 (j + 1) (by omega) (by omega)
      rw [show (j : Int) + 1 + a = a + j + 1 by omega, show (j : Int) + 1 + a_q = a_q + j + 1 by omega] at this
      exact this
theorem pV_congr {q : Int → Bool} {t t_q : Int → Int} {a a_q : Int} {k : Nat} (h : pV q t a k) (e : ∀ j : Nat, j ≤ k → t (a + j) = t_q (a_q + j)) : pV q t_q a_q k := by
  refine ⟨?_, fun j hj => ?_⟩
  · have := e 0 (by omega)
    rw [show a + ((0 : Nat) : Int) = a by omega, show a_q + ((0 : Nat) : Int) = a_q by omega] at this
    rw [← this]
    exact h.1
  · have := e (j + 1) (by omega)
    rw [show a + ((j + 1 : Nat) : Int) = a + j + 1 by omega, show a_q + ((j + 1 : Nat) : Int) = a_q + j + 1 by omega] at this
    rw [← this]
    exact h.2 j hj
theorem pPk_congr {t t_q : Int → Int} {a a_q : Int} : ∀ {k : Nat}, (∀ j : Nat, j ≤ k → t (a + j) = t_q (a_q + j)) → pPk t a k = pPk t_q a_q k
  | 0, e => by
    have := e 0 (by omega)
    rw [show a + ((0 : Nat) : Int) = a by omega, show a_q + ((0 : Nat) : Int) = a_q by omega] at this
    show zF2 .iand (t a) 31 = zF2 .iand (t_q a_q) 31
    rw [this]
  | k + 1, e => by
    have := e (k + 1) (by omega)
    rw [show a + ((k + 1 : Nat) : Int) = a + k + 1 by omega, show a_q + ((k + 1 : Nat) : Int) = a_q + k + 1 by omega] at this
    show zF2 .ladd (zF2 .lmul (pPk t a k) 38) _ = zF2 .ladd (zF2 .lmul (pPk t_q a_q k) 38) _
    rw [pPk_congr (fun j hj => e j (by omega)), this]
