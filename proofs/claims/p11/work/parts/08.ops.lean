/-! ===== the checker's arithmetic ===== -/
abbrev aRes : Type := (Nat × Int) ⊕ (Int × Int)
def aRm (ρ : Nat → Int) (r : aRes) (z : Int) : Prop := match r with
  | .inl q => z = ρ q.1 + q.2
  | .inr q => q.1 ≤ z ∧ z ≤ q.2
def aFit (t : Nat) (lo hi : Int) : Bool := if t = 0 then decide (-2147483648 ≤ lo) && decide (hi ≤ 2147483647) else decide (-9223372036854775808 ≤ lo) && decide (hi ≤ 9223372036854775807)
def aFull (t : Nat) : aRes := if t = 0 then .inr (-2147483648, 2147483647) else .inr (-9223372036854775808, 9223372036854775807)
def aLin (R : aRg) (t k : Nat) (o : Int) : aRes := if aFit t ((aG R k).1 + o) ((aG R k).2 + o) = true then .inl (k, o) else aFull t
def aItv (t : Nat) (lo hi : Int) : aRes := if aFit t lo hi = true then .inr (lo, hi) else aFull t
def aZ (R : aRg) : Bool := decide ((aG R 0).1 = 0) && decide ((aG R 0).2 = 0)
theorem aZ_ok {R : aRg} {ρ : Nat → Int} (h : aZ R = true) (hR : aOkR R ρ) : ρ 0 = 0 := by
  simp only [aZ, Bool.and_eq_true, decide_eq_true_eq] at h
  have := hR 0
  omega
theorem aB32 {w : Int} (h1 : -2147483648 ≤ w) (h2 : w ≤ 2147483647) : w.bmod (2 ^ 32) = w := Int.bmod_eq_of_le (by omega) (by omega)
theorem aB64 {w : Int} (h1 : -9223372036854775808 ≤ w) (h2 : w ≤ 9223372036854775807) : w.bmod (2 ^ 64) = w := Int.bmod_eq_of_le (by omega) (by omega)
theorem aI32 (z : Int32) : -2147483648 ≤ z.toInt ∧ z.toInt ≤ 2147483647 := by
  have h1 := z.le_toInt
  have h2 := z.toInt_lt
  omega
theorem aI64 (z : Int64) : -9223372036854775808 ≤ z.toInt ∧ z.toInt ≤ 9223372036854775807 := by
  have h1 := z.le_toInt
  have h2 := z.toInt_lt
  omega
theorem aFull0 {ρ : Nat → Int} (z : Int32) : aRm ρ (aFull 0) z.toInt := aI32 z
theorem aFull1 {ρ : Nat → Int} (z : Int64) : aRm ρ (aFull 1) z.toInt := aI64 z
theorem aLin0 {R : aRg} {ρ : Nat → Int} (hR : aOkR R ρ) {z : Int32} {w : Int} {k : Nat} {o : Int} (hz : z.toInt = w.bmod (2 ^ 32)) (hw : w = ρ k + o) : aRm ρ (aLin R 0 k o) z.toInt := by
  unfold aLin
  split
  · rename_i hf
    simp only [aFit, if_true, Bool.and_eq_true, decide_eq_true_eq] at hf
    have := hR k
    show z.toInt = ρ k + o
    rw [hz, hw, aB32 (by omega) (by omega)]
  · exact aFull0 z
theorem aLin1 {R : aRg} {ρ : Nat → Int} (hR : aOkR R ρ) {z : Int64} {w : Int} {k : Nat} {o : Int} (hz : z.toInt = w.bmod (2 ^ 64)) (hw : w = ρ k + o) : aRm ρ (aLin R 1 k o) z.toInt := by
  unfold aLin
  split
  · rename_i hf
    simp only [aFit, Nat.succ_ne_zero, if_false, Bool.and_eq_true, decide_eq_true_eq] at hf
    have := hR k
    show z.toInt = ρ k + o
    rw [hz, hw, aB64 (by omega) (by omega)]
  · exact aFull1 z
theorem aItv0 {ρ : Nat → Int} {z : Int32} {w lo hi : Int} (hz : z.toInt = w.bmod (2 ^ 32)) (h1 : lo ≤ w) (h2 : w ≤ hi) : aRm ρ (aItv 0 lo hi) z.toInt := by
  unfold aItv
  split
  · rename_i hf
    simp only [aFit, if_true, Bool.and_eq_true, decide_eq_true_eq] at hf
    show lo ≤ z.toInt ∧ z.toInt ≤ hi
    rw [hz, aB32 (by omega) (by omega)]
    exact ⟨h1, h2⟩
  · exact aFull0 z
theorem aItv1 {ρ : Nat → Int} {z : Int64} {w lo hi : Int} (hz : z.toInt = w.bmod (2 ^ 64)) (h1 : lo ≤ w) (h2 : w ≤ hi) : aRm ρ (aItv 1 lo hi) z.toInt := by
  unfold aItv
  split
  · rename_i hf
    simp only [aFit, Nat.succ_ne_zero, if_false, Bool.and_eq_true, decide_eq_true_eq] at hf
    show lo ≤ z.toInt ∧ z.toInt ≤ hi
    rw [hz, aB64 (by omega) (by omega)]
    exact ⟨h1, h2⟩
  · exact aFull1 z
/-- sum and difference: t says int or long -/
def aAdd (R : aRg) (t : Nat) (a b : Nat × Int) : aRes :=
  if b.1 = 0 ∧ aZ R = true then aLin R t a.1 (a.2 + b.2) else if a.1 = 0 ∧ aZ R = true then aLin R t b.1 (a.2 + b.2)
  else aItv t ((aG R a.1).1 + a.2 + ((aG R b.1).1 + b.2)) ((aG R a.1).2 + a.2 + ((aG R b.1).2 + b.2))
def aSubt (R : aRg) (t : Nat) (a b : Nat × Int) : aRes :=
  if b.1 = 0 ∧ aZ R = true then aLin R t a.1 (a.2 - b.2) else if a.1 = b.1 then aItv t (a.2 - b.2) (a.2 - b.2)
  else aItv t ((aG R a.1).1 + a.2 - ((aG R b.1).2 + b.2)) ((aG R a.1).2 + a.2 - ((aG R b.1).1 + b.2))
def aMul (R : aRg) (t : Nat) (a b : Nat × Int) : aRes :=
  if b.1 = 0 ∧ aZ R = true ∧ 0 ≤ b.2 then aItv t (((aG R a.1).1 + a.2) * b.2) (((aG R a.1).2 + a.2) * b.2)
  else if a.1 = 0 ∧ aZ R = true ∧ 0 ≤ a.2 then aItv t (((aG R b.1).1 + b.2) * a.2) (((aG R b.1).2 + b.2) * a.2) else aFull t
theorem aAdd0 {R : aRg} {ρ : Nat → Int} (hR : aOkR R ρ) {x y : Int32} {a b : Nat × Int} (hx : x.toInt = ρ a.1 + a.2) (hy : y.toInt = ρ b.1 + b.2) : aRm ρ (aAdd R 0 a b) (x + y).toInt := by
  have ha := hR a.1
  have hb := hR b.1
  unfold aAdd
  split
  · rename_i h
    have h0 := aZ_ok h.2 hR
    exact aLin0 hR (Int32.toInt_add x y) (by rw [h.1, h0] at hy; omega)
  · split
    · rename_i h
      have h0 := aZ_ok h.2 hR
      exact aLin0 hR (Int32.toInt_add x y) (by rw [h.1, h0] at hx; omega)
    · exact aItv0 (Int32.toInt_add x y) (by omega) (by omega)
theorem aAdd1 {R : aRg} {ρ : Nat → Int} (hR : aOkR R ρ) {x y : Int64} {a b : Nat × Int} (hx : x.toInt = ρ a.1 + a.2) (hy : y.toInt = ρ b.1 + b.2) : aRm ρ (aAdd R 1 a b) (x + y).toInt := by
  have ha := hR a.1
  have hb := hR b.1
  unfold aAdd
  split
  · rename_i h
    have h0 := aZ_ok h.2 hR
    exact aLin1 hR (Int64.toInt_add x y) (by rw [h.1, h0] at hy; omega)
  · split
    · rename_i h
      have h0 := aZ_ok h.2 hR
      exact aLin1 hR (Int64.toInt_add x y) (by rw [h.1, h0] at hx; omega)
    · exact aItv1 (Int64.toInt_add x y) (by omega) (by omega)
theorem aSub0 {R : aRg} {ρ : Nat → Int} (hR : aOkR R ρ) {x y : Int32} {a b : Nat × Int} (hx : x.toInt = ρ a.1 + a.2) (hy : y.toInt = ρ b.1 + b.2) : aRm ρ (aSubt R 0 a b) (x - y).toInt := by
  have ha := hR a.1
  have hb := hR b.1
  unfold aSubt
  split
  · rename_i h
    have h0 := aZ_ok h.2 hR
    exact aLin0 hR (Int32.toInt_sub x y) (by rw [h.1, h0] at hy; omega)
  · split
    · rename_i h
      rw [h] at hx
      exact aItv0 (Int32.toInt_sub x y) (by omega) (by omega)
    · exact aItv0 (Int32.toInt_sub x y) (by omega) (by omega)
theorem aSub1 {R : aRg} {ρ : Nat → Int} (hR : aOkR R ρ) {x y : Int64} {a b : Nat × Int} (hx : x.toInt = ρ a.1 + a.2) (hy : y.toInt = ρ b.1 + b.2) : aRm ρ (aSubt R 1 a b) (x - y).toInt := by
  have ha := hR a.1
  have hb := hR b.1
  unfold aSubt
  split
  · rename_i h
    have h0 := aZ_ok h.2 hR
    exact aLin1 hR (Int64.toInt_sub x y) (by rw [h.1, h0] at hy; omega)
  · split
    · rename_i h
      rw [h] at hx
      exact aItv1 (Int64.toInt_sub x y) (by omega) (by omega)
    · exact aItv1 (Int64.toInt_sub x y) (by omega) (by omega)
theorem aMulB {u v c lo hi : Int} (h1 : lo ≤ u) (h2 : u ≤ hi) (hc : 0 ≤ c) (e : v = c) : lo * c ≤ u * v ∧ u * v ≤ hi * c := by
  subst e
  exact ⟨Int.mul_le_mul_of_nonneg_right h1 hc, Int.mul_le_mul_of_nonneg_right h2 hc⟩
theorem aMul0 {R : aRg} {ρ : Nat → Int} (hR : aOkR R ρ) {x y : Int32} {a b : Nat × Int} (hx : x.toInt = ρ a.1 + a.2) (hy : y.toInt = ρ b.1 + b.2) : aRm ρ (aMul R 0 a b) (x * y).toInt := by
  have ha := hR a.1
  have hb := hR b.1
  unfold aMul
  split
  · rename_i h
    have h0 := aZ_ok h.2.1 hR
    obtain ⟨g1, g2⟩ := aMulB (u := x.toInt) (v := y.toInt) (lo := (aG R a.1).1 + a.2) (hi := (aG R a.1).2 + a.2) (by omega) (by omega) h.2.2 (by rw [hy, h.1, h0]; omega)
    exact aItv0 (Int32.toInt_mul x y) g1 g2
  · split
    · rename_i h
      have h0 := aZ_ok h.2.1 hR
      obtain ⟨g1, g2⟩ := aMulB (u := y.toInt) (v := x.toInt) (lo := (aG R b.1).1 + b.2) (hi := (aG R b.1).2 + b.2) (by omega) (by omega) h.2.2 (by rw [hx, h.1, h0]; omega)
      exact aItv0 (Int32.toInt_mul x y) (by rw [Int.mul_comm x.toInt]; exact g1) (by rw [Int.mul_comm x.toInt]; exact g2)
    · exact aFull0 _
theorem aMul1 {R : aRg} {ρ : Nat → Int} (hR : aOkR R ρ) {x y : Int64} {a b : Nat × Int} (hx : x.toInt = ρ a.1 + a.2) (hy : y.toInt = ρ b.1 + b.2) : aRm ρ (aMul R 1 a b) (x * y).toInt := by
  have ha := hR a.1
  have hb := hR b.1
  unfold aMul
  split
  · rename_i h
    have h0 := aZ_ok h.2.1 hR
    obtain ⟨g1, g2⟩ := aMulB (u := x.toInt) (v := y.toInt) (lo := (aG R a.1).1 + a.2) (hi := (aG R a.1).2 + a.2) (by omega) (by omega) h.2.2 (by rw [hy, h.1, h0]; omega)
    exact aItv1 (Int64.toInt_mul x y) g1 g2
  · split
    · rename_i h
      have h0 := aZ_ok h.2.1 hR
      obtain ⟨g1, g2⟩ := aMulB (u := y.toInt) (v := x.toInt) (lo := (aG R b.1).1 + b.2) (hi := (aG R b.1).2 + b.2) (by omega) (by omega) h.2.2 (by rw [hx, h.1, h0]; omega)
      exact aItv1 (Int64.toInt_mul x y) (by rw [Int.mul_comm x.toInt]; exact g1) (by rw [Int.mul_comm x.toInt]; exact g2)
    · exact aFull1 _
/-- masks of the form 2 ^ k - 1 -/
def aMask (c : Int) : Option Nat := if c = 1 then some 1 else if c = 3 then some 2 else if c = 7 then some 3 else if c = 15 then some 4 else if c = 31 then some 5 else if c = 63 then some 6 else if c = 127 then some 7 else if c = 255 then some 8 else none
theorem aMask_ok {c : Int} {k : Nat} (h : aMask c = some k) : c = ((2 ^ k - 1 : Nat) : Int) ∧ k ≤ 8 := by
  unfold aMask at h
  repeat' split at h
  all_goals first | (cases h; done) | (cases h; subst_vars; exact ⟨by decide, by decide⟩)
def aAnd (R : aRg) (a b : Nat × Int) : aRes := if b.1 = 0 ∧ aZ R = true then (match aMask b.2 with | some _ => .inr (0, b.2) | none => aFull 0) else aFull 0
theorem aAnd0 {R : aRg} {ρ : Nat → Int} (hR : aOkR R ρ) {x y : Int32} {a b : Nat × Int} (hy : y.toInt = ρ b.1 + b.2) : aRm ρ (aAnd R a b) (x &&& y).toInt := by
  unfold aAnd
  split
  · rename_i h
    have h0 := aZ_ok h.2 hR
    have hc : y.toInt = b.2 := by rw [hy, h.1, h0]; omega
    split
    · rename_i k hk
      obtain ⟨e1, e2⟩ := aMask_ok hk
      have hy2 : y = nI (2 ^ k - 1) := by
        apply Int32.toInt_inj.mp
        have hp : 2 ^ k ≤ 2 ^ 8 := Nat.pow_le_pow_right (by decide) e2
        have hp1 : 1 ≤ 2 ^ k := Nat.one_le_two_pow
        rw [nI_toInt (by omega), hc, e1]
      have hp : 2 ^ k ≤ 2 ^ 8 := Nat.pow_le_pow_right (by decide) e2
      have hp1 : 1 ≤ 2 ^ k := Nat.one_le_two_pow
      have hm : y.toBitVec.toNat = 2 ^ k - 1 := by rw [hy2]; exact pk_tn (by omega)
      rw [pk_and x k hm]
      have hlt : x.toBitVec.toNat % 2 ^ k < 2 ^ k := Nat.mod_lt _ (by omega)
      show 0 ≤ _ ∧ _ ≤ b.2
      rw [nI_toInt (by omega), e1]
      omega
    · exact aFull0 _
  · exact aFull0 _
/-- division by a known positive number, of what is not negative -/
def aDiv (R : aRg) (t : Nat) (a b : Nat × Int) : Option aRes :=
  if 0 < (aG R b.1).1 + b.2 then (if 0 ≤ (aG R a.1).1 + a.2 then some (.inr (0, (aG R a.1).2 + a.2)) else some (aFull t)) else none
theorem aDivB {u v hi : Int} (h0 : 0 ≤ u) (h1 : u ≤ hi) (hv : 0 < v) : 0 ≤ u.tdiv v ∧ u.tdiv v ≤ hi := by
  rw [Int.tdiv_eq_ediv_of_nonneg h0]
  refine ⟨Int.ediv_nonneg h0 (Int.le_of_lt hv), ?_⟩
  have := Int.ediv_le_self v h0
  omega
theorem aDiv0 {R : aRg} {ρ : Nat → Int} (hR : aOkR R ρ) {x y : Int32} {a b : Nat × Int} {r : aRes} (hd : aDiv R 0 a b = some r) (hx : x.toInt = ρ a.1 + a.2) (hy : y.toInt = ρ b.1 + b.2) : ¬ y = 0 ∧ aRm ρ r (x / y).toInt := by
  have ha := hR a.1
  have hb := hR b.1
  unfold aDiv at hd
  split at hd
  · rename_i h1
    have hne : ¬ y = 0 := fun q => by
      rw [q] at hy
      have : (0 : Int32).toInt = 0 := by decide
      omega
    refine ⟨hne, ?_⟩
    split at hd
    · rename_i h2
      cases hd
      obtain ⟨g1, g2⟩ := aDivB (u := x.toInt) (v := y.toInt) (hi := (aG R a.1).2 + a.2) (by omega) (by omega) (by omega)
      show 0 ≤ _ ∧ _ ≤ _
      have hb2 := aI32 x
      have hle := aDivB (u := x.toInt) (v := y.toInt) (hi := x.toInt) (by omega) (by omega) (by omega)
      rw [Int32.toInt_div, aB32 (by omega) (by omega)]
      exact ⟨g1, g2⟩
    · cases hd
      exact aFull0 _
  · cases hd
theorem aDiv1 {R : aRg} {ρ : Nat → Int} (hR : aOkR R ρ) {x y : Int64} {a b : Nat × Int} {r : aRes} (hd : aDiv R 1 a b = some r) (hx : x.toInt = ρ a.1 + a.2) (hy : y.toInt = ρ b.1 + b.2) : ¬ y = 0 ∧ aRm ρ r (x / y).toInt := by
  have ha := hR a.1
  have hb := hR b.1
  unfold aDiv at hd
  split at hd
  · rename_i h1
    have hne : ¬ y = 0 := fun q => by
      rw [q] at hy
      have : (0 : Int64).toInt = 0 := by decide
      omega
    refine ⟨hne, ?_⟩
    split at hd
    · rename_i h2
      cases hd
      obtain ⟨g1, g2⟩ := aDivB (u := x.toInt) (v := y.toInt) (hi := (aG R a.1).2 + a.2) (by omega) (by omega) (by omega)
      show 0 ≤ _ ∧ _ ≤ _
      have hb2 := aI64 x
      have hle := aDivB (u := x.toInt) (v := y.toInt) (hi := x.toInt) (by omega) (by omega) (by omega)
      rw [Int64.toInt_div, aB64 (by omega) (by omega)]
      exact ⟨g1, g2⟩
    · cases hd
      exact aFull1 _
  · cases hd
/-- the rest of it -/
def aRem (R : aRg) (a b : Nat × Int) : Option aRes :=
  if 0 < (aG R b.1).1 + b.2 then (if 0 ≤ (aG R a.1).1 + a.2 ∧ (aG R b.1).2 + b.2 ≤ 2147483647 then some (.inr (0, (aG R b.1).2 + b.2 - 1)) else some (aFull 0)) else none
theorem aRem0 {R : aRg} {ρ : Nat → Int} (hR : aOkR R ρ) {x y : Int32} {a b : Nat × Int} {r : aRes} (hd : aRem R a b = some r) (hx : x.toInt = ρ a.1 + a.2) (hy : y.toInt = ρ b.1 + b.2) : ¬ y = 0 ∧ aRm ρ r (x - x / y * y).toInt := by
  have ha := hR a.1
  have hb := hR b.1
  unfold aRem at hd
  split at hd
  · rename_i h1
    have hne : ¬ y = 0 := fun q => by
      rw [q] at hy
      have : (0 : Int32).toInt = 0 := by decide
      omega
    refine ⟨hne, ?_⟩
    split at hd
    · rename_i h2
      cases hd
      have hx0 : ¬ x < 0 := fun q => by
        have := Int32.lt_iff_toInt_lt.mp q
        have h0 : (0 : Int32).toInt = 0 := by decide
        omega
      have hy0 : ¬ y < 0 := fun q => by
        have := Int32.lt_iff_toInt_lt.mp q
        have h0 : (0 : Int32).toInt = 0 := by decide
        omega
      obtain ⟨u, hu, rfl⟩ := nI_of hx0
      obtain ⟨v, hv, rfl⟩ := nI_of hy0
      rw [nI_toInt hv] at hy
      have hv0 : 0 < v := by omega
      rw [pk_rem hu hv0 hv]
      have hlt : u % v < v := Nat.mod_lt _ hv0
      show 0 ≤ _ ∧ _ ≤ _
      rw [nI_toInt (by omega)]
      omega
    · cases hd
      exact aFull0 _
  · cases hd
def aCmp (R : aRg) (a b : Nat × Int) : aRes :=
  if a = b then .inr (0, 0) else if (aG R a.1).2 + a.2 < (aG R b.1).1 + b.2 then .inr (-1, -1) else if (aG R b.1).2 + b.2 < (aG R a.1).1 + a.2 then .inr (1, 1)
  else if (aG R a.1).1 + a.2 = (aG R a.1).2 + a.2 ∧ (aG R b.1).1 + b.2 = (aG R b.1).2 + b.2 then .inr (0, 0) else .inr (-1, 1)
theorem aCmp0 {R : aRg} {ρ : Nat → Int} (hR : aOkR R ρ) {x y : Int64} {a b : Nat × Int} (hx : x.toInt = ρ a.1 + a.2) (hy : y.toInt = ρ b.1 + b.2) : aRm ρ (aCmp R a b) (lg_cmp x y).toInt := by
  have ha := hR a.1
  have hb := hR b.1
  have e0 : (0 : Int32).toInt = 0 := by decide
  have e1 : (1 : Int32).toInt = 1 := by decide
  have e2 : (-1 : Int32).toInt = -1 := by decide
  have hc : (lg_cmp x y).toInt = if y.toInt < x.toInt then 1 else if x.toInt = y.toInt then 0 else -1 := by
    unfold lg_cmp
    simp only [gt_iff_lt, Int64.lt_iff_toInt_lt, ← Int64.toInt_inj]
    split
    · exact e1
    · split
      · exact e0
      · exact e2
  rw [hc]
  unfold aCmp
  repeat' split
  all_goals first
    | (rename_i h1 h2; subst h1; exfalso; omega)
    | (show _ ≤ _ ∧ _ ≤ _; constructor <;> first | decide | omega)
    | skip
  all_goals (rename_i h1 _ _; subst h1; exfalso; omega)
