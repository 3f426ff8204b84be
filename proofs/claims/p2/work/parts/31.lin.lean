/-! ===== lines: sums of numbers, what is known of them ===== -/
/-- a line: coefficients of numbers, and a constant -/
abbrev rX : Type := List (Nat × Int) × Int
def rSm (ρ : Nat → Int) : List (Nat × Int) → Int
  | [] => 0
  | q :: r => q.2 * ρ q.1 + rSm ρ r
def rE (ρ : Nat → Int) (x : rX) : Int := x.2 + rSm ρ x.1
/-- in the order of the numbers, without noughts -/
def rIn (k : Nat) (c : Int) : List (Nat × Int) → List (Nat × Int)
  | [] => if c = 0 then [] else [(k, c)]
  | q :: r => if q.1 = k then (if q.2 + c = 0 then r else (k, q.2 + c) :: r) else if Nat.blt k q.1 = true then (if c = 0 then q :: r else (k, c) :: q :: r) else q :: rIn k c r
theorem rIn_ok {ρ : Nat → Int} {k : Nat} {c : Int} : ∀ {l : List (Nat × Int)}, rSm ρ (rIn k c l) = c * ρ k + rSm ρ l
  | [] => by
    unfold rIn
    split
    · rename_i h
      simp [rSm, h]
    · simp [rSm]
  | q :: r => by
    unfold rIn
    split
    · rename_i h
      split
      · rename_i h0
        simp only [rSm]
        rw [← h]
        have h1 : (q.2 + c) * ρ q.1 = 0 := by rw [h0, Int.zero_mul]
        rw [Int.add_mul] at h1
        omega
      · simp only [rSm]
        rw [← h, Int.add_mul]
        omega
    · split
      · split
        · rename_i h0
          simp [rSm, h0]
        · simp [rSm]
      · simp only [rSm]
        rw [rIn_ok]
        omega
def rAl (x y : List (Nat × Int)) : List (Nat × Int) := match x with
  | [] => y
  | q :: r => rIn q.1 q.2 (rAl r y)
theorem rAl_ok {ρ : Nat → Int} {y : List (Nat × Int)} : ∀ {x : List (Nat × Int)}, rSm ρ (rAl x y) = rSm ρ x + rSm ρ y
  | [] => by simp [rAl, rSm]
  | q :: r => by
    simp only [rAl, rSm]
    rw [rIn_ok, rAl_ok]
    omega
def rAd (x y : rX) : rX := (rAl x.1 y.1, x.2 + y.2)
theorem rE_ad {ρ : Nat → Int} {x y : rX} : rE ρ (rAd x y) = rE ρ x + rE ρ y := by
  unfold rE rAd
  dsimp only
  rw [rAl_ok]
  omega
def rMu (m : Int) (x : rX) : rX := if m = 0 then ([], 0) else (x.1.map (fun q => (q.1, m * q.2)), m * x.2)
theorem rSm_mu {ρ : Nat → Int} {m : Int} : ∀ {l : List (Nat × Int)}, rSm ρ (l.map (fun q => (q.1, m * q.2))) = m * rSm ρ l
  | [] => by simp [rSm]
  | q :: r => by
    simp only [List.map_cons, rSm]
    rw [rSm_mu, Int.mul_add, Int.mul_assoc]
theorem rE_mu {ρ : Nat → Int} {m : Int} {x : rX} : rE ρ (rMu m x) = m * rE ρ x := by
  unfold rMu
  split
  · rename_i h
    rw [h]
    simp [rE, rSm]
  · unfold rE
    dsimp only
    rw [rSm_mu, Int.mul_add]
def rSb (x y : rX) : rX := rAd x (rMu (-1) y)
theorem rE_sb {ρ : Nat → Int} {x y : rX} : rE ρ (rSb x y) = rE ρ x - rE ρ y := by
  unfold rSb
  rw [rE_ad, rE_mu]
  omega
def rC (c : Int) : rX := ([], c)
theorem rE_c {ρ : Nat → Int} {c : Int} : rE ρ (rC c) = c := by simp [rE, rC, rSm]
def rPl (x : rX) (c : Int) : rX := (x.1, x.2 + c)
theorem rE_pl {ρ : Nat → Int} {x : rX} {c : Int} : rE ρ (rPl x c) = rE ρ x + c := by
  unfold rE rPl
  dsimp only
  omega
def rSy (k : Nat) : rX := ([(k, 1)], 0)
theorem rE_sy {ρ : Nat → Int} {k : Nat} : rE ρ (rSy k) = ρ k := by simp [rE, rSy, rSm]
/-- the least that it may be, by the ranges -/
def rLo (R : aRg) : List (Nat × Int) → Int
  | [] => 0
  | q :: r => (if 0 ≤ q.2 then q.2 * (aG R q.1).1 else q.2 * (aG R q.1).2) + rLo R r
theorem rLo_ok {R : aRg} {ρ : Nat → Int} (hR : aOkR R ρ) : ∀ {l : List (Nat × Int)}, rLo R l ≤ rSm ρ l
  | [] => Int.le_refl _
  | q :: r => by
    unfold rLo rSm
    have h1 := rLo_ok hR (l := r)
    have h2 := hR q.1
    split
    · rename_i hc
      have := Int.mul_le_mul_of_nonneg_left h2.1 hc
      omega
    · rename_i hc
      have := Int.mul_le_mul_of_nonpos_left (show q.2 ≤ 0 by omega) h2.2
      omega
def rCf (k : Nat) : List (Nat × Int) → Int
  | [] => 0
  | q :: r => if q.1 = k then q.2 else rCf k r
/-- how often a fact may be taken off, so that one of its numbers goes -/
def rCd (x : List (Nat × Int)) : List (Nat × Int) → List Int
  | [] => []
  | q :: r => if 0 < rCf q.1 x / q.2 ∧ (rCf q.1 x / q.2) * q.2 = rCf q.1 x then (rCf q.1 x / q.2) :: rCd x r else rCd x r
/-- the line is not below 0, by ranges and facts -/
def rPo (R : aRg) (Γ : List rX) : Nat → rX → Bool
  | 0, x => decide (0 ≤ x.2 + rLo R x.1)
  | f + 1, x => decide (0 ≤ x.2 + rLo R x.1) || Γ.any (fun g => (rCd x.1 g.1).any (fun m => decide (0 ≤ m) && rPo R Γ f (rSb x (rMu m g))))
/-- the newest number by its range alone -/
def rFo (R : aRg) : List (Nat × Int) → List (Nat × Int) × Int
  | [] => ([], 0)
  | q :: r => (match r with
    | [] => ([], if 0 ≤ q.2 then q.2 * (aG R q.1).1 else q.2 * (aG R q.1).2)
    | _ :: _ => (q :: (rFo R r).1, (rFo R r).2))
/-- likewise, the newest number of the line going first: by a fact, or by its range -/
def rPn (R : aRg) (Γ : List rX) : Nat → rX → Bool
  | 0, x => decide (0 ≤ x.2 + rLo R x.1)
  | f + 1, x => decide (0 ≤ x.2 + rLo R x.1) || (match x.1.getLast? with
    | some z => Γ.any (fun g => (match g.1.getLast? with | some y => (rCd [z] [y]).any (fun m => decide (0 ≤ m) && rPn R Γ f (rSb x (rMu m g))) | none => false)) || rPn R Γ f ((rFo R x.1).1, x.2 + (rFo R x.1).2)
    | none => false)
def rPv (R : aRg) (Γ : List rX) (f : Nat) (x : rX) : Bool := rPo R Γ (min f 2) x || (Nat.ble 2 f && rPn R Γ 8 x)
def rFa (ρ : Nat → Int) (Γ : List rX) : Prop := ∀ g ∈ Γ, 0 ≤ rE ρ g
theorem rPo_ok {R : aRg} {Γ : List rX} {ρ : Nat → Int} (hR : aOkR R ρ) (hΓ : rFa ρ Γ) : ∀ {f : Nat} {x : rX}, rPo R Γ f x = true → 0 ≤ rE ρ x
  | 0, x, h => by
    simp only [rPo, decide_eq_true_eq] at h
    have := rLo_ok hR (l := x.1)
    unfold rE
    omega
  | f + 1, x, h => by
    simp only [rPo, Bool.or_eq_true, decide_eq_true_eq] at h
    rcases h with h | h
    · have := rLo_ok hR (l := x.1)
      unfold rE
      omega
    · obtain ⟨g, hg, h⟩ := List.any_eq_true.mp h
      obtain ⟨m, -, h⟩ := List.any_eq_true.mp h
      simp only [Bool.and_eq_true, decide_eq_true_eq] at h
      have h1 := rPo_ok hR hΓ h.2
      rw [rE_sb, rE_mu] at h1
      have h2 := Int.mul_nonneg h.1 (hΓ g hg)
      omega
theorem rFo_ok {R : aRg} {ρ : Nat → Int} (hR : aOkR R ρ) : ∀ {l : List (Nat × Int)}, rSm ρ (rFo R l).1 + (rFo R l).2 ≤ rSm ρ l
  | [] => by simp [rFo, rSm]
  | [q] => by
    simp only [rFo, rSm]
    have h2 := hR q.1
    split
    · rename_i hc
      have := Int.mul_le_mul_of_nonneg_left h2.1 hc
      omega
    · rename_i hc
      have := Int.mul_le_mul_of_nonpos_left (show q.2 ≤ 0 by omega) h2.2
      omega
  | q :: q2 :: r => by
    have := rFo_ok hR (l := q2 :: r)
    simp only [rFo, rSm] at this ⊢
    omega
theorem rPn_ok {R : aRg} {Γ : List rX} {ρ : Nat → Int} (hR : aOkR R ρ) (hΓ : rFa ρ Γ) : ∀ {f : Nat} {x : rX}, rPn R Γ f x = true → 0 ≤ rE ρ x
  | 0, x, h => by
    simp only [rPn, decide_eq_true_eq] at h
    have := rLo_ok hR (l := x.1)
    unfold rE
    omega
  | f + 1, x, h => by
    simp only [rPn, Bool.or_eq_true, decide_eq_true_eq] at h
    rcases h with h | h
    · have := rLo_ok hR (l := x.1)
      unfold rE
      omega
    · split at h
      · rw [Bool.or_eq_true] at h
        rcases h with h | h
        · obtain ⟨g, hg, h⟩ := List.any_eq_true.mp h
          split at h
          · obtain ⟨m, -, h⟩ := List.any_eq_true.mp h
            simp only [Bool.and_eq_true, decide_eq_true_eq] at h
            have h1 := rPn_ok hR hΓ h.2
            rw [rE_sb, rE_mu] at h1
            have h2 := Int.mul_nonneg h.1 (hΓ g hg)
            omega
          · cases h
        · have h1 := rPn_ok hR hΓ h
          have h2 := rFo_ok hR (l := x.1)
          unfold rE at h1 ⊢
          dsimp only at h1
          omega
      · cases h
theorem rPv_ok {R : aRg} {Γ : List rX} {ρ : Nat → Int} (hR : aOkR R ρ) (hΓ : rFa ρ Γ) {f : Nat} {x : rX} (h : rPv R Γ f x = true) : 0 ≤ rE ρ x := by
  simp only [rPv, Bool.or_eq_true, Bool.and_eq_true] at h
  rcases h with h | h
  · exact rPo_ok hR hΓ h
  · exact rPn_ok hR hΓ h.2
/-- a fact that the ranges rule out -/
def rBad (R : aRg) (Γ : List rX) : Bool := Γ.any (fun g => decide (0 < (rMu (-1) g).2 + rLo R (rMu (-1) g).1))
theorem rBad_ok {R : aRg} {Γ : List rX} {ρ : Nat → Int} (hR : aOkR R ρ) (hΓ : rFa ρ Γ) (h : rBad R Γ = true) : False := by
  obtain ⟨g, hg, h⟩ := List.any_eq_true.mp h
  simp only [decide_eq_true_eq] at h
  have h1 := rLo_ok hR (l := (rMu (-1) g).1)
  have h2 := hΓ g hg
  have h3 : rE ρ (rMu (-1) g) = -1 * rE ρ g := rE_mu
  unfold rE at h3
  unfold rE at h2
  omega
/-- it is other than 0 -/
def rNe (R : aRg) (Γ : List rX) (f : Nat) (x : rX) : Bool := rPv R Γ f (rPl x (-1)) || rPv R Γ f (rPl (rMu (-1) x) (-1))
theorem rNe_ok {R : aRg} {Γ : List rX} {ρ : Nat → Int} (hR : aOkR R ρ) (hΓ : rFa ρ Γ) {f : Nat} {x : rX} (h : rNe R Γ f x = true) : rE ρ x ≠ 0 := by
  simp only [rNe, Bool.or_eq_true] at h
  rcases h with h | h
  · have := rPv_ok hR hΓ h
    rw [rE_pl] at this
    omega
  · have := rPv_ok hR hΓ h
    rw [rE_pl, rE_mu] at this
    omega
/-- it is 0 -/
def rZe (R : aRg) (Γ : List rX) (f : Nat) (x : rX) : Bool := rPv R Γ f x && rPv R Γ f (rMu (-1) x)
theorem rZe_ok {R : aRg} {Γ : List rX} {ρ : Nat → Int} (hR : aOkR R ρ) (hΓ : rFa ρ Γ) {f : Nat} {x : rX} (h : rZe R Γ f x = true) : rE ρ x = 0 := by
  simp only [rZe, Bool.and_eq_true] at h
  have h1 := rPv_ok hR hΓ h.1
  have h2 := rPv_ok hR hΓ h.2
  rw [rE_mu] at h2
  omega
/-- one more fact: none if it can't be -/
def rAs (R : aRg) (Γ : List rX) (x : rX) : Option (aRg × List rX) := match x.1 with
  | [] => if 0 ≤ x.2 then some (R, Γ) else none
  | [q] => if 0 < q.2 then (if max (aG R q.1).1 (-(x.2 / q.2)) ≤ (aG R q.1).2 then some (R.set q.1 (max (aG R q.1).1 (-(x.2 / q.2)), (aG R q.1).2), Γ) else none)
      else if q.2 < 0 then (if (aG R q.1).1 ≤ min (aG R q.1).2 (x.2 / (-q.2)) then some (R.set q.1 ((aG R q.1).1, min (aG R q.1).2 (x.2 / (-q.2))), Γ) else none) else some (R, x :: Γ)
  | _ => if rPv R Γ 0 x = true then some (R, Γ) else if rPv R Γ 2 (rPl (rMu (-1) x) (-1)) = true then none else some (R, x :: Γ)
theorem rFa_cons {ρ : Nat → Int} {Γ : List rX} {x : rX} (h : rFa ρ Γ) (hx : 0 ≤ rE ρ x) : rFa ρ (x :: Γ) := by
  intro g hg
  rcases List.mem_cons.mp hg with rfl | hg
  · exact hx
  · exact h g hg
theorem rAs_ok {R : aRg} {Γ : List rX} {ρ : Nat → Int} (hR : aOkR R ρ) (hΓ : rFa ρ Γ) {x : rX} (hx : 0 ≤ rE ρ x) : ∃ q, rAs R Γ x = some q ∧ aOkR q.1 ρ ∧ rFa ρ q.2 ∧ q.1.length = R.length := by
  obtain ⟨l, c⟩ := x
  match l with
  | [] =>
    simp only [rE, rSm] at hx
    exact ⟨(R, Γ), by simp only [rAs]; rw [if_pos (by omega)], hR, hΓ, rfl⟩
  | [q] =>
    simp only [rE, rSm] at hx
    have hk := hR q.1
    simp only [rAs]
    by_cases h1 : 0 < q.2
    · have h3 : -(c / q.2) ≤ ρ q.1 := by
        have := Int.ediv_mul_le c (show q.2 ≠ 0 by omega)
        have h4 : -(ρ q.1) ≤ c / q.2 := (Int.le_ediv_iff_mul_le h1).mpr (by rw [Int.neg_mul, Int.mul_comm]; omega)
        omega
      rw [if_pos h1, if_pos (by omega)]
      exact ⟨_, rfl, aOkR_set hR (by omega) (by omega), hΓ, by simp⟩
    · rw [if_neg h1]
      by_cases h2 : q.2 < 0
      · have h3 : ρ q.1 ≤ c / (-q.2) := (Int.le_ediv_iff_mul_le (by omega)).mpr (by rw [Int.mul_neg, Int.mul_comm]; omega)
        rw [if_pos h2, if_pos (by omega)]
        exact ⟨_, rfl, aOkR_set hR (by omega) (by omega), hΓ, by simp⟩
      · rw [if_neg h2]
        exact ⟨_, rfl, hR, rFa_cons hΓ (by simp only [rE, rSm]; exact hx), rfl⟩
  | q :: q2 :: r =>
    simp only [rAs]
    split
    · exact ⟨_, rfl, hR, hΓ, rfl⟩
    · split
      · rename_i h
        have := rPv_ok hR hΓ h
        rw [rE_pl, rE_mu] at this
        omega
      · exact ⟨_, rfl, hR, rFa_cons hΓ hx, rfl⟩
def rAsL (R : aRg) (Γ : List rX) : List rX → Option (aRg × List rX)
  | [] => some (R, Γ)
  | x :: r => (match rAs R Γ x with | some q => rAsL q.1 q.2 r | none => none)
theorem rAsL_ok {ρ : Nat → Int} : ∀ {xs : List rX} {R : aRg} {Γ : List rX}, aOkR R ρ → rFa ρ Γ → (∀ x ∈ xs, 0 ≤ rE ρ x) → ∃ q, rAsL R Γ xs = some q ∧ aOkR q.1 ρ ∧ rFa ρ q.2 ∧ q.1.length = R.length
  | [], R, Γ, hR, hΓ, _ => ⟨_, rfl, hR, hΓ, rfl⟩
  | x :: r, R, Γ, hR, hΓ, hx => by
    obtain ⟨q, e1, e2, e3, e4⟩ := rAs_ok hR hΓ (hx x List.mem_cons_self)
    obtain ⟨q2, f1, f2, f3, f4⟩ := rAsL_ok e2 e3 (fun z hz => hx z (List.mem_cons_of_mem _ hz))
    exact ⟨q2, by simp only [rAsL]; rw [e1]; exact f1, f2, f3, f4.trans e4⟩
/-- the numbers of a line are below n -/
def rWx (n : Nat) (x : rX) : Bool := x.1.all (fun q => Nat.blt q.1 n)
theorem rSm_same {n : Nat} {ρ ρ' : Nat → Int} (hs : ∀ k, k < n → ρ' k = ρ k) : ∀ {l : List (Nat × Int)}, l.all (fun q => Nat.blt q.1 n) = true → rSm ρ' l = rSm ρ l
  | [], _ => rfl
  | q :: r, h => by
    simp only [List.all_cons, Bool.and_eq_true] at h
    simp only [rSm]
    rw [hs q.1 ((Nat.blt_eq).mp h.1), rSm_same hs h.2]
theorem rE_same {n : Nat} {ρ ρ' : Nat → Int} (hs : ∀ k, k < n → ρ' k = ρ k) {x : rX} (h : rWx n x = true) : rE ρ' x = rE ρ x := by
  unfold rE
  rw [rSm_same hs h]
