/-! ===== steps on values, locals and branches ===== -/
noncomputable def rWS (σ : rS) (S : List rV) : rS := (σ.1, σ.2.1, σ.2.2.1, S, σ.2.2.2.2)
noncomputable def rWG (σ : rS) (S : List rV) (q : aRg × List rX) : rS := (q.1, q.2, σ.2.2.1, S, σ.2.2.2.2)
/-- the numbers and versions that are in use are as they were -/
noncomputable def rSm0 (σ : rS) (ρ ρ_q : Nat → Int) (γ γ_q : Nat → rHp) : Prop := (∀ k, k < σ.1.length → ρ_q k = ρ k) ∧ ∀ n, n ≤ σ.2.2.2.2.1.length → γ_q n = γ n
theorem rSm0_rf {σ : rS} {ρ : Nat → Int} {γ : Nat → rHp} : rSm0 σ ρ ρ γ γ := ⟨fun _ _ => rfl, fun _ _ => rfl⟩
noncomputable def rsort (v : rV) : Nat := if v.1 = 0 then 0 else if v.1 = 1 then 1 else 2
noncomputable def rcat (v : rV) : Nat := if v.1 = 1 then 2 else 1
theorem rsort_ok {W : List rGr} {A : rA} {ρ : Nat → Int} {b : aSc} {v : rV} {x : Value} (h : rMv W A ρ b v x) : xsort x = rsort v := by
  obtain ⟨t, k, o⟩ := v
  unfold rMv at h
  dsimp only at h
  split at h
  · obtain ⟨z, rfl, -⟩ := h; rfl
  · obtain ⟨z, rfl, -⟩ := h; rfl
  · obtain ⟨rfl, -⟩ := h; rfl
  · subst h; rfl
  · obtain ⟨rfl, -⟩ := h; rfl
  · obtain ⟨z, rfl⟩ := h; rfl
  · exact h.elim
theorem rcat_ok {W : List rGr} {A : rA} {ρ : Nat → Int} {b : aSc} {v : rV} {x : Value} (h : rMv W A ρ b v x) : x.category = rcat v := by
  obtain ⟨t, k, o⟩ := v
  unfold rMv at h
  dsimp only at h
  split at h
  · obtain ⟨z, rfl, -⟩ := h; rfl
  · obtain ⟨z, rfl, -⟩ := h; rfl
  · obtain ⟨rfl, -⟩ := h; rfl
  · subst h; rfl
  · obtain ⟨rfl, -⟩ := h; rfl
  · obtain ⟨z, rfl⟩ := h; rfl
  · exact h.elim
theorem rMv_int {W : List rGr} {A : rA} {ρ : Nat → Int} {b : aSc} {v : rV} {x : Value} (h : rMv W A ρ b v x) (h0 : v.1 = 0) : ∃ z : Int32, x = .int z ∧ z.toInt = rE ρ v.2.2 := by
  unfold rMv at h
  rw [h0] at h
  exact h
theorem rMv_lng {W : List rGr} {A : rA} {ρ : Nat → Int} {b : aSc} {v : rV} {x : Value} (h : rMv W A ρ b v x) (h0 : v.1 = 1) : ∃ z : Int64, x = .long z ∧ z.toInt = rE ρ v.2.2 := by
  unfold rMv at h
  rw [h0] at h
  exact h
theorem rMv_ref {W : List rGr} {A : rA} {ρ : Nat → Int} {b : aSc} {v : rV} {x : Value} (h : rMv W A ρ b v x) (h0 : v.1 = 2) : x = .ref (A v.2.1 (rE ρ v.2.2)) ∧ ∃ q, W[v.2.1]? = some q ∧ 0 ≤ rE ρ v.2.2 ∧ rE ρ v.2.2 < q.2.2.1 := by
  unfold rMv at h
  rw [h0] at h
  exact h
noncomputable def rset (L : List (Nat × rV)) (ix : Nat) (v : rV) : List (Nat × rV) := (ix, v) :: L.filter (fun q => !(q.1 == ix) && (!(q.1 + 1 == ix && rcat q.2 == 2) && !(rcat v == 2 && q.1 == ix + 1)))
theorem rLoc_set {W : List rGr} {A : rA} {ρ : Nat → Int} {b : aSc} {L : List (Nat × rV)} {lv : List (Nat × Value)} {ix : Nat} {v : rV} {x : Value} (h : rLoc W A ρ b L lv) (hv : rMv W A ρ b v x) : rLoc W A ρ b (rset L ix v) (xset lv ix x) := by
  intro q hq
  rcases List.mem_cons.mp hq with rfl | hq
  · exact ⟨x, xget_self, hv⟩
  · obtain ⟨hq1, hq2⟩ := List.mem_filter.mp hq
    obtain ⟨y, hy, hm⟩ := h q hq1
    simp only [Bool.and_eq_true, Bool.not_eq_true', beq_eq_false_iff_ne, ne_eq, Bool.and_eq_false_imp, beq_iff_eq] at hq2
    refine ⟨y, xget_set hy hq2.1 ?_ ?_, hm⟩
    · rintro ⟨g1, g2⟩
      rw [rcat_ok hm] at g2
      exact hq2.2.1 g1 g2
    · rintro ⟨g1, g2⟩
      rw [rcat_ok hv] at g1
      exact hq2.2.2 g1 g2
theorem rStk_cons {W : List rGr} {A : rA} {ρ : Nat → Int} {b : aSc} {v : rV} {S : List rV} {st : List Value} (h : rStk W A ρ b (v :: S) st) : ∃ x st_q, st = x :: st_q ∧ rMv W A ρ b v x ∧ rStk W A ρ b S st_q := by
  cases st with
  | nil => exact h.elim
  | cons x st => exact ⟨x, st, rfl, h.1, h.2⟩
/-- a line, or a range -/
abbrev rRes : Type := rX ⊕ (Int × Int)
noncomputable def rRm (ρ : Nat → Int) (r : rRes) (z : Int) : Prop := match r with
  | .inl x => z = rE ρ x
  | .inr q => q.1 ≤ z ∧ z ≤ q.2
noncomputable def rRv (ρ : Nat → Int) (t : Nat) (r : rRes) (v : Value) : Prop := (t = 0 ∧ ∃ z : Int32, v = .int z ∧ rRm ρ r z.toInt) ∨ (t = 1 ∧ ∃ z : Int64, v = .long z ∧ rRm ρ r z.toInt)
noncomputable def rWf (σ : rS) (S : List rV) : Bool := rWk σ.1 σ.2.1 σ.2.2.2.2.1 σ.2.2.2.2.2.1 && (rLs σ.2.2.1 S).all (rWx σ.1.length)
/-- push: a range becomes a new number -/
noncomputable def rPu (σ : rS) (S : List rV) (t : Nat) (r : rRes) : Option rS := match r with
  | .inl x => some (rWS σ ((t, 0, x) :: S))
  | .inr q => if q.1 = q.2 then some (rWS σ ((t, 0, rC q.1) :: S)) else if rWf σ S = true then some (σ.1 ++ [q], σ.2.1, σ.2.2.1, (t, 0, rSy σ.1.length) :: S, σ.2.2.2.2) else none
theorem rMv_num {W : List rGr} {A : rA} {ρ : Nat → Int} {b : aSc} {t G : Nat} {x : rX} {v : Value} (h : (t = 0 ∧ ∃ z : Int32, v = .int z ∧ z.toInt = rE ρ x) ∨ (t = 1 ∧ ∃ z : Int64, v = .long z ∧ z.toInt = rE ρ x)) : rMv W A ρ b (t, G, x) v := by
  rcases h with ⟨rfl, z, h1, h2⟩ | ⟨rfl, z, h1, h2⟩
  · exact ⟨z, h1, h2⟩
  · exact ⟨z, h1, h2⟩
section XN
variable {W : List rGr} {T : List rIT} {B : Nat} {A : rA} {b : aSc} {i0 : List Nat} {ρ : Nat → Int} {γ : Nat → rHp} {σ : rS} {lv : List (Nat × Value)} {st : List Value} {h : xH}
/-- a new number in the state -/
theorem rSt_new {S : List rV} {lo hi z : Int} (hA : rSt W T B A b i0 ρ γ (rWS σ S) lv st h) (hw : rWf σ S = true) (h1 : lo ≤ z) (h2 : z ≤ hi) : rSt W T B A b i0 (aUp ρ σ.1.length z) γ (σ.1 ++ [(lo, hi)], σ.2.1, σ.2.2.1, S, σ.2.2.2.2) lv st h ∧ rSm0 σ ρ (aUp ρ σ.1.length z) γ γ := by
  simp only [rWf, Bool.and_eq_true] at hw
  have hs : ∀ k, k < σ.1.length → aUp ρ σ.1.length z k = ρ k := fun k hk => aUp_ne _ _ (by omega)
  obtain ⟨l1, l2⟩ := rLs_loc (W := W) (A := A) (b := b) (lv := lv) (st := st) (fun x hx => rE_same hs (List.all_eq_true.mp hw.2 x hx)) hA.2.1 hA.2.2.1
  exact ⟨⟨rK_new hA.1 hw.1 h1 h2, l1, l2, hA.2.2.2⟩, hs, fun _ _ => rfl⟩
theorem rPu_ok {S : List rV} {t : Nat} {r : rRes} {σ_q : rS} {v : Value} (hA : rSt W T B A b i0 ρ γ (rWS σ S) lv st h) (hp : rPu σ S t r = some σ_q) (hv : rRv ρ t r v) :
    ∃ ρ_q, rSm0 σ ρ ρ_q γ γ ∧ rSt W T B A b i0 ρ_q γ σ_q lv (v :: st) h ∧ σ_q.2.2.2.2.2.2 = σ.2.2.2.2.2.2 := by
  unfold rPu at hp
  cases r with
  | inl x =>
    cases hp
    exact ⟨ρ, rSm0_rf, ⟨hA.1, hA.2.1, ⟨rMv_num hv, hA.2.2.1⟩, hA.2.2.2⟩, rfl⟩
  | inr q =>
    dsimp only at hp
    split at hp
    · rename_i e
      cases hp
      refine ⟨ρ, rSm0_rf, ⟨hA.1, hA.2.1, ⟨rMv_num ?_, hA.2.2.1⟩, hA.2.2.2⟩, rfl⟩
      rcases hv with ⟨h1, z, h2, h3⟩ | ⟨h1, z, h2, h3⟩
      · exact Or.inl ⟨h1, z, h2, by rw [rE_c]; simp only [rRm] at h3; omega⟩
      · exact Or.inr ⟨h1, z, h2, by rw [rE_c]; simp only [rRm] at h3; omega⟩
    · split at hp
      · rename_i hw
        cases hp
        rcases hv with ⟨h1, z, h2, h3⟩ | ⟨h1, z, h2, h3⟩
        · obtain ⟨g1, g2⟩ := rSt_new hA hw h3.1 h3.2
          exact ⟨_, g2, ⟨g1.1, g1.2.1, ⟨rMv_num (Or.inl ⟨h1, z, h2, by rw [rE_sy, aUp_self]⟩), g1.2.2.1⟩, g1.2.2.2⟩, rfl⟩
        · obtain ⟨g1, g2⟩ := rSt_new hA hw h3.1 h3.2
          exact ⟨_, g2, ⟨g1.1, g1.2.1, ⟨rMv_num (Or.inr ⟨h1, z, h2, by rw [rE_sy, aUp_self]⟩), g1.2.2.1⟩, g1.2.2.2⟩, rfl⟩
      · cases hp
end XN
/-! operations: as lines where they fit, else by the ranges -/
noncomputable def rHi (R : aRg) (x : rX) : Int := x.2 - rLo R (x.1.map (fun q => (q.1, -q.2)))
theorem rHi_ok {R : aRg} {ρ : Nat → Int} (hR : aOkR R ρ) {x : rX} : rE ρ x ≤ rHi R x := by
  have h1 := rLo_ok hR (l := x.1.map (fun q => (q.1, -q.2)))
  have h2 : ∀ l : List (Nat × Int), rSm ρ (l.map (fun q => (q.1, -q.2))) = - rSm ρ l := by
    intro l
    induction l with
    | nil => simp [rSm]
    | cons q r ih =>
      simp only [List.map_cons, rSm]
      rw [ih, Int.neg_mul]
      omega
  rw [h2] at h1
  unfold rE rHi
  omega
/-- the ranges of two lines, as numbers 1 and 2 -/
noncomputable def rPr (R : aRg) (x y : rX) : aRg := [(0, 0), (x.2 + rLo R x.1, rHi R x), (y.2 + rLo R y.1, rHi R y)]
noncomputable def rPw (ρ : Nat → Int) (x y : rX) : Nat → Int := fun k => if k = 1 then rE ρ x else if k = 2 then rE ρ y else 0
theorem rPr_ok {R : aRg} {ρ : Nat → Int} (hR : aOkR R ρ) {x y : rX} : aOkR (rPr R x y) (rPw ρ x y) := by
  intro k
  have h1 := rLo_ok hR (l := x.1)
  have h2 := rLo_ok hR (l := y.1)
  have h3 := rHi_ok hR (x := x)
  have h4 := rHi_ok hR (x := y)
  match k with
  | 0 => simp [aG, rPr, rPw]
  | 1 => simp only [aG, rPr, rPw, List.getD_cons_succ, List.getD_cons_zero, if_true]; unfold rE at h3 ⊢; omega
  | 2 => exact (show y.2 + rLo R y.1 ≤ rE ρ y ∧ rE ρ y ≤ rHi R y from ⟨by unfold rE; omega, h4⟩)
  | k + 3 => simp [aG, rPr, rPw]
noncomputable def rPa (t n : Nat) (x : rX) : aV := if x.1.isEmpty = true then (t, 0, x.2) else (t, n, 0)
noncomputable def rBk (x y : rX) (r : aRes) : rRes := match r with
  | .inl q => .inl (if q.1 = 1 then rPl x q.2 else if q.1 = 2 then rPl y q.2 else rC q.2)
  | .inr q => .inr q
theorem rBk_ok {ρ : Nat → Int} {x y : rX} {r : aRes} {z : Int} (h : aRm (rPw ρ x y) r z) : rRm ρ (rBk x y r) z := by
  cases r with
  | inl q =>
    simp only [aRm] at h
    simp only [rBk, rRm]
    rw [h]
    unfold rPw
    split
    · rw [rE_pl]
    · split
      · rw [rE_pl]
      · rw [rE_c]; omega
  | inr q => exact h
theorem rPa_ok {W : List rGr} {A : rA} {ρ : Nat → Int} {b : aSc} {v : rV} {w : Value} {x y : rX} {n : Nat} (ht : v.1 < 2) (h : rMv W A ρ b v w) (hn : rPw ρ x y n = rE ρ v.2.2) : aM (rPw ρ x y) (fun _ => none) (fun _ => none) b (rPa v.1 n v.2.2) w := by
  have e : (rPw ρ x y) (rPa v.1 n v.2.2).2.1 + (rPa v.1 n v.2.2).2.2 = rE ρ v.2.2 := by
    unfold rPa
    split
    · rename_i hc
      rw [rE_cst hc]
      simp [rPw]
    · dsimp only
      rw [hn]
      omega
  have e1 : (rPa v.1 n v.2.2).1 = v.1 := by unfold rPa; split <;> rfl
  unfold aM
  rw [e1]
  rcases (show v.1 = 0 ∨ v.1 = 1 by omega) with h0 | h0
  · obtain ⟨z, h1, h2⟩ := rMv_int h h0
    rw [h0] at e ⊢
    exact ⟨z, h1, by rw [e]; exact h2⟩
  · obtain ⟨z, h1, h2⟩ := rMv_lng h h0
    rw [h0] at e ⊢
    exact ⟨z, h1, by rw [e]; exact h2⟩
noncomputable def rFit (R : aRg) (Γ : List rX) (t : Nat) (x : rX) : Bool := if t = 0 then rPv R Γ 2 (rPl x 2147483648) && rPv R Γ 2 (rPl (rMu (-1) x) 2147483647) else rPv R Γ 2 (rPl x 9223372036854775808) && rPv R Γ 2 (rPl (rMu (-1) x) 9223372036854775807)
/-- the line of a sum, difference or multiple -/
noncomputable def rLn (i : Instr) (x y : rX) : Option (Nat × rX) := match i with
  | .iadd => some (0, rAd x y)
  | .isub => some (0, rSb x y)
  | .ladd => some (1, rAd x y)
  | .lsub => some (1, rSb x y)
  | .imul => if y.1.isEmpty = true then some (0, rMu y.2 x) else if x.1.isEmpty = true then some (0, rMu x.2 y) else none
  | .lmul => if y.1.isEmpty = true then some (1, rMu y.2 x) else if x.1.isEmpty = true then some (1, rMu x.2 y) else none
  | _ => none
noncomputable def rSh (i : Instr) (y : rX) : Option Int := match i with
  | .lushr => if y.1.isEmpty = true ∧ 1 ≤ y.2 ∧ y.2 ≤ 63 then some y.2 else none
  | _ => none
noncomputable def rop2 (R : aRg) (Γ : List rX) (i : Instr) (a b : rV) : Option (Nat × rRes) :=
  if a.1 < 2 ∧ b.1 < 2 then
    match rLn i a.2.2 b.2.2 with
    | some q => if a.1 = q.1 ∧ b.1 = q.1 ∧ rFit R Γ q.1 q.2 = true then some (q.1, .inl q.2) else (aop2 (rPr R a.2.2 b.2.2) i (rPa a.1 1 a.2.2) (rPa b.1 2 b.2.2)).map (fun z => (z.1, rBk a.2.2 b.2.2 z.2))
    | none => (match rSh i b.2.2 with
      | some k => if a.1 = 1 ∧ b.1 = 0 then some (1, .inr (0, 2 ^ (64 - k.toNat) - 1)) else none
      | none => (aop2 (rPr R a.2.2 b.2.2) i (rPa a.1 1 a.2.2) (rPa b.1 2 b.2.2)).map (fun z => (z.1, rBk a.2.2 b.2.2 z.2)))
  else none
theorem rFit_ok {R : aRg} {Γ : List rX} {ρ : Nat → Int} (hR : aOkR R ρ) (hΓ : rFa ρ Γ) {t : Nat} {x : rX} (h : rFit R Γ t x = true) : (t = 0 → -2147483648 ≤ rE ρ x ∧ rE ρ x ≤ 2147483647) ∧ (t ≠ 0 → -9223372036854775808 ≤ rE ρ x ∧ rE ρ x ≤ 9223372036854775807) := by
  unfold rFit at h
  split at h
  · rename_i e
    simp only [Bool.and_eq_true] at h
    have h1 := rPv_ok hR hΓ h.1
    have h2 := rPv_ok hR hΓ h.2
    rw [rE_pl] at h1 h2
    rw [rE_mu] at h2
    exact ⟨fun _ => by omega, fun q => absurd e q⟩
  · rename_i e
    simp only [Bool.and_eq_true] at h
    have h1 := rPv_ok hR hΓ h.1
    have h2 := rPv_ok hR hΓ h.2
    rw [rE_pl] at h1 h2
    rw [rE_mu] at h2
    exact ⟨fun q => absurd q e, fun _ => by omega⟩
theorem rop2_lin {W : List rGr} {A : rA} {R : aRg} {Γ : List rX} {ρ : Nat → Int} {b : aSc} {i : Instr} {a c : rV} {x y : Value} {q : Nat × rX} (hR : aOkR R ρ) (hΓ : rFa ρ Γ) (hq : rLn i a.2.2 c.2.2 = some q) (h1 : a.1 = q.1) (h2 : c.1 = q.1) (hf : rFit R Γ q.1 q.2 = true) (ha : rMv W A ρ b a x) (hc : rMv W A ρ b c y) : ∃ v, xop2 i x y = some v ∧ rRv ρ q.1 (.inl q.2) v := by
  obtain ⟨f0, f1⟩ := rFit_ok hR hΓ hf
  unfold rLn at hq
  have cst : ∀ {z : rX}, z.1.isEmpty = true → z.2 = rE ρ z := fun hz => (rE_cst hz).symm
  split at hq
  · cases hq
    obtain ⟨z, rfl, hz⟩ := rMv_int ha h1
    obtain ⟨w, rfl, hw⟩ := rMv_int hc h2
    have f0 := f0 rfl
    rw [rE_ad] at f0
    exact ⟨_, rfl, Or.inl ⟨rfl, _, rfl, by show (z + w).toInt = _; rw [Int32.toInt_add, aB32 (by omega) (by omega), rE_ad]; omega⟩⟩
  · cases hq
    obtain ⟨z, rfl, hz⟩ := rMv_int ha h1
    obtain ⟨w, rfl, hw⟩ := rMv_int hc h2
    have f0 := f0 rfl
    rw [rE_sb] at f0
    exact ⟨_, rfl, Or.inl ⟨rfl, _, rfl, by show (z - w).toInt = _; rw [Int32.toInt_sub, aB32 (by omega) (by omega), rE_sb]; omega⟩⟩
  · cases hq
    obtain ⟨z, rfl, hz⟩ := rMv_lng ha h1
    obtain ⟨w, rfl, hw⟩ := rMv_lng hc h2
    have f1 := f1 (show (1 : Nat) ≠ 0 by decide)
    rw [rE_ad] at f1
    exact ⟨_, rfl, Or.inr ⟨rfl, _, rfl, by show (z + w).toInt = _; rw [Int64.toInt_add, aB64 (by omega) (by omega), rE_ad]; omega⟩⟩
  · cases hq
    obtain ⟨z, rfl, hz⟩ := rMv_lng ha h1
    obtain ⟨w, rfl, hw⟩ := rMv_lng hc h2
    have f1 := f1 (show (1 : Nat) ≠ 0 by decide)
    rw [rE_sb] at f1
    exact ⟨_, rfl, Or.inr ⟨rfl, _, rfl, by show (z - w).toInt = _; rw [Int64.toInt_sub, aB64 (by omega) (by omega), rE_sb]; omega⟩⟩
  · have key : q.1 = 0 ∧ rE ρ q.2 = rE ρ a.2.2 * rE ρ c.2.2 := by
      split at hq
      · rename_i hk
        cases hq
        exact ⟨rfl, by rw [rE_mu, cst hk, Int.mul_comm]⟩
      · split at hq
        · rename_i hk
          cases hq
          exact ⟨rfl, by rw [rE_mu, cst hk]⟩
        · cases hq
    have f0 := f0 key.1
    rw [key.1] at h1 h2
    obtain ⟨z, rfl, hz⟩ := rMv_int ha h1
    obtain ⟨w, rfl, hw⟩ := rMv_int hc h2
    rw [key.2, ← hz, ← hw] at f0
    exact ⟨_, rfl, Or.inl ⟨key.1, _, rfl, by show (z * w).toInt = _; rw [Int32.toInt_mul, aB32 f0.1 f0.2, key.2, hz, hw]⟩⟩
  · have key : q.1 = 1 ∧ rE ρ q.2 = rE ρ a.2.2 * rE ρ c.2.2 := by
      split at hq
      · rename_i hk
        cases hq
        exact ⟨rfl, by rw [rE_mu, cst hk, Int.mul_comm]⟩
      · split at hq
        · rename_i hk
          cases hq
          exact ⟨rfl, by rw [rE_mu, cst hk]⟩
        · cases hq
    have f1 := f1 (by rw [key.1]; decide)
    rw [key.1] at h1 h2
    obtain ⟨z, rfl, hz⟩ := rMv_lng ha h1
    obtain ⟨w, rfl, hw⟩ := rMv_lng hc h2
    rw [key.2, ← hz, ← hw] at f1
    exact ⟨_, rfl, Or.inr ⟨key.1, _, rfl, by show (z * w).toInt = _; rw [Int64.toInt_mul, aB64 f1.1 f1.2, key.2, hz, hw]⟩⟩
  · cases hq
theorem lushr_rg {x : Int64} {y : Int32} {k : Int} (hy : y.toInt = k) (h1 : 1 ≤ k) (h2 : k ≤ 63) : 0 ≤ (x.toUInt64 >>> (y.toInt64.toUInt64 &&& Int64.toUInt64 63)).toInt64.toInt ∧ (x.toUInt64 >>> (y.toInt64.toUInt64 &&& Int64.toUInt64 63)).toInt64.toInt ≤ 2 ^ (64 - k.toNat) - 1 := by
  obtain ⟨n, rfl⟩ : ∃ n : Nat, k = (n : Int) := ⟨k.toNat, by omega⟩
  have hn1 : 1 ≤ n := by omega
  have hn2 : n ≤ 63 := by omega
  have hsh : (y.toInt64.toUInt64 &&& Int64.toUInt64 63).toNat = n := by
    have hy2 : y = Int32.ofNat n := by
      apply Int32.toInt_inj.mp
      rw [hy, Int32.toInt_ofNat_of_lt (by omega)]
    rw [hy2]
    revert hn1 hn2
    clear hy2 hy h1 h2
    have : ∀ n : Fin 64, ((Int32.ofNat n.1).toInt64.toUInt64 &&& Int64.toUInt64 63).toNat = n.1 := by decide
    intro _ hn2
    exact this ⟨n, by omega⟩
  have hv : (x.toUInt64 >>> (y.toInt64.toUInt64 &&& Int64.toUInt64 63)).toNat = x.toUInt64.toNat >>> n := by
    rw [UInt64.toNat_shiftRight, hsh, Nat.mod_eq_of_lt (by omega)]
  have hb : x.toUInt64.toNat >>> n < 2 ^ (64 - n) := by
    rw [Nat.shiftRight_eq_div_pow]
    have := x.toUInt64.toNat_lt
    rw [Nat.div_lt_iff_lt_mul (Nat.two_pow_pos n), ← Nat.pow_add]
    rw [show 64 - n + n = 64 by omega]
    exact this
  have hb2 : (2 : Nat) ^ (64 - n) ≤ 2 ^ 63 := Nat.pow_le_pow_right (by decide) (by omega)
  have hI : (x.toUInt64 >>> (y.toInt64.toUInt64 &&& Int64.toUInt64 63)).toInt64.toInt = ((x.toUInt64.toNat >>> n : Nat) : Int) := by
    show (x.toUInt64 >>> (y.toInt64.toUInt64 &&& Int64.toUInt64 63)).toBitVec.toInt = _
    rw [BitVec.toInt_eq_toNat_of_lt (by show 2 * (x.toUInt64 >>> (y.toInt64.toUInt64 &&& Int64.toUInt64 63)).toNat < 2 ^ 64; rw [hv]; omega)]
    show (((x.toUInt64 >>> (y.toInt64.toUInt64 &&& Int64.toUInt64 63)).toNat : Nat) : Int) = _
    rw [hv]
  rw [hI, Int.toNat_natCast]
  refine ⟨by omega, ?_⟩
  have : ((2 ^ (64 - n) : Nat) : Int) = (2 : Int) ^ (64 - n) := by simp
  omega
theorem rop2_ok {W : List rGr} {A : rA} {R : aRg} {Γ : List rX} {ρ : Nat → Int} {b : aSc} {i : Instr} {a c : rV} {x y : Value} {t : Nat} {r : rRes} (hR : aOkR R ρ) (hΓ : rFa ρ Γ) (h : rop2 R Γ i a c = some (t, r)) (ha : rMv W A ρ b a x) (hc : rMv W A ρ b c y) : ∃ v, xop2 i x y = some v ∧ rRv ρ t r v := by
  unfold rop2 at h
  split at h
  · rename_i ht
    have back : ∀ {t : Nat} {r : rRes}, (aop2 (rPr R a.2.2 c.2.2) i (rPa a.1 1 a.2.2) (rPa c.1 2 c.2.2)).map (fun z => (z.1, rBk a.2.2 c.2.2 z.2)) = some (t, r) → ∃ v, xop2 i x y = some v ∧ rRv ρ t r v := by
      intro t r h
      cases e : aop2 (rPr R a.2.2 c.2.2) i (rPa a.1 1 a.2.2) (rPa c.1 2 c.2.2) with
      | none => rw [e] at h; cases h
      | some z =>
        rw [e] at h
        cases h
        obtain ⟨v, h1, h2⟩ := aop2_ok (rPr_ok hR) (show _ = some (z.1, z.2) from e) (rPa_ok (x := a.2.2) (y := c.2.2) ht.1 ha (by simp [rPw])) (rPa_ok (x := a.2.2) (y := c.2.2) ht.2 hc (by simp [rPw]))
        refine ⟨v, h1, ?_⟩
        rcases h2 with ⟨g1, w, g2, g3⟩ | ⟨g1, w, g2, g3⟩
        · exact Or.inl ⟨g1, w, g2, rBk_ok g3⟩
        · exact Or.inr ⟨g1, w, g2, rBk_ok g3⟩
    split at h
    · rename_i q hq
      split at h
      · rename_i hc2
        cases h
        exact rop2_lin hR hΓ hq hc2.1 hc2.2.1 hc2.2.2 ha hc
      · exact back h
    · split at h
      · rename_i k hk
        split at h
        · rename_i hc2
          cases h
          unfold rSh at hk
          split at hk
          · split at hk
            · rename_i hs
              cases hk
              obtain ⟨z, rfl, hz⟩ := rMv_lng ha hc2.1
              obtain ⟨w, rfl, hw⟩ := rMv_int hc hc2.2
              rw [rE_cst hs.1] at hw
              exact ⟨_, rfl, Or.inr ⟨rfl, _, rfl, lushr_rg hw hs.2.1 hs.2.2⟩⟩
            · cases hk
          · cases hk
        · cases h
      · exact back h
  · cases h
noncomputable def rop1 (R : aRg) (i : Instr) (a : rV) : Option (Nat × rRes) := if a.1 < 2 then (aop1 (rPr R a.2.2 a.2.2) i (rPa a.1 1 a.2.2)).map (fun z => (z.1, rBk a.2.2 a.2.2 z.2)) else none
theorem rop1_ok {W : List rGr} {A : rA} {R : aRg} {ρ : Nat → Int} {b : aSc} {i : Instr} {a : rV} {x : Value} {t : Nat} {r : rRes} (hR : aOkR R ρ) (h : rop1 R i a = some (t, r)) (ha : rMv W A ρ b a x) : ∃ v, xop1 i x = some v ∧ rRv ρ t r v := by
  unfold rop1 at h
  split at h
  · rename_i ht
    cases e : aop1 (rPr R a.2.2 a.2.2) i (rPa a.1 1 a.2.2) with
    | none => rw [e] at h; cases h
    | some z =>
      rw [e] at h
      cases h
      obtain ⟨v, h1, h2⟩ := aop1_ok (rPr_ok hR) (show _ = some (z.1, z.2) from e) (rPa_ok (x := a.2.2) (y := a.2.2) ht ha (by simp [rPw]))
      refine ⟨v, h1, ?_⟩
      rcases h2 with ⟨g1, w, g2, g3⟩ | ⟨g1, w, g2, g3⟩
      · exact Or.inl ⟨g1, w, g2, rBk_ok g3⟩
      · exact Or.inr ⟨g1, w, g2, rBk_ok g3⟩
  · cases h
/-! comparisons -/
noncomputable def rRl (cd : ClassFile.Cond) (x y : rX) : List rX := match cd with
  | .eq => [rSb x y, rSb y x]
  | .ne => []
  | .lt => [rPl (rSb y x) (-1)]
  | .ge => [rSb x y]
  | .gt => [rPl (rSb x y) (-1)]
  | .le => [rSb y x]
noncomputable def rRf (R : aRg) (Γ : List rX) (cd : ClassFile.Cond) (x y : rX) : Option (aRg × List rX) := match cd with
  | .ne => if rZe R Γ 0 (rSb x y) = true then none else if rPv R Γ 1 (rSb x y) = true then rAs R Γ (rPl (rSb x y) (-1)) else if rPv R Γ 1 (rSb y x) = true then rAs R Γ (rPl (rSb y x) (-1)) else some (R, Γ)
  | _ => rAsL R Γ (rRl cd x y)
theorem rRf_ok {R : aRg} {Γ : List rX} {ρ : Nat → Int} (hR : aOkR R ρ) (hΓ : rFa ρ Γ) {cd : ClassFile.Cond} {x y : rX} (h : aRelI cd (rE ρ x) (rE ρ y) = true) : ∃ q, rRf R Γ cd x y = some q ∧ aOkR q.1 ρ ∧ rFa ρ q.2 ∧ q.1.length = R.length := by
  have one : ∀ {z : rX}, 0 ≤ rE ρ z → ∀ w ∈ [z], 0 ≤ rE ρ w := fun hz w hw => by
    rw [List.mem_singleton] at hw
    rw [hw]
    exact hz
  cases cd <;> simp only [aRelI, decide_eq_true_eq] at h
  case ne =>
    simp only [rRf]
    split
    · rename_i hz
      have := rZe_ok hR hΓ hz
      rw [rE_sb] at this
      omega
    · split
      · rename_i hp
        have := rPv_ok hR hΓ hp
        rw [rE_sb] at this
        exact rAs_ok hR hΓ (by rw [rE_pl, rE_sb]; omega)
      · split
        · rename_i hp
          have := rPv_ok hR hΓ hp
          rw [rE_sb] at this
          exact rAs_ok hR hΓ (by rw [rE_pl, rE_sb]; omega)
        · exact ⟨_, rfl, hR, hΓ, rfl⟩
  case eq =>
    refine rAsL_ok hR hΓ (fun z hz => ?_)
    simp only [rRl, List.mem_cons, List.not_mem_nil, or_false] at hz
    rcases hz with rfl | rfl <;> rw [rE_sb] <;> omega
  case lt => exact rAsL_ok hR hΓ (one (by rw [rE_pl, rE_sb]; omega))
  case ge => exact rAsL_ok hR hΓ (one (by rw [rE_sb]; omega))
  case gt => exact rAsL_ok hR hΓ (one (by rw [rE_pl, rE_sb]; omega))
  case le => exact rAsL_ok hR hΓ (one (by rw [rE_sb]; omega))
noncomputable def rTwo (σ : rS) (S : List rV) (cd : ClassFile.Cond) (x y : rX) (tg pc_q : Nat) : List (Nat × rS) :=
  (match rRf σ.1 σ.2.1 cd x y with | some q => [(tg, rWG σ S q)] | none => []) ++ (match rRf σ.1 σ.2.1 (aNeg cd) x y with | some q => [(pc_q, rWG σ S q)] | none => [])
/-! the steps -/
noncomputable def rs0 (σ : rS) (i : Instr) (len pc : Nat) : Option (List (Nat × rS)) := match xop0 i with
  | some q => if q.2 = len then (match q.1 with
    | .int z => some [(pc + len, rWS σ ((0, 0, rC z.toInt) :: σ.2.2.2.1))]
    | .long z => some [(pc + len, rWS σ ((1, 0, rC z.toInt) :: σ.2.2.2.1))]
    | .null => some [(pc + len, rWS σ ((3, 0, rC 0) :: σ.2.2.2.1))]
    | _ => none) else none
  | none => none
noncomputable def rs1 (σ : rS) (i : Instr) (len pc : Nat) : Option (List (Nat × rS)) := match σ.2.2.2.1 with
  | a :: S => if len = 1 then (match rop1 σ.1 i a with | some q => (rPu σ S q.1 q.2).map (fun σ_q => [(pc + 1, σ_q)]) | none => none) else none
  | [] => none
noncomputable def rs2 (σ : rS) (i : Instr) (len pc : Nat) : Option (List (Nat × rS)) := match σ.2.2.2.1 with
  | d :: a :: S => if len = 1 then (match rop2 σ.1 σ.2.1 i a d with | some q => (rPu σ S q.1 q.2).map (fun σ_q => [(pc + 1, σ_q)]) | none => none) else none
  | _ => none
noncomputable def rstk : Instr → List rV → Option (List rV)
  | .pop, a :: r => if rcat a = 1 then some r else none
  | .dup, a :: r => if rcat a = 1 then some (a :: a :: r) else none
  | .dup_x1, a :: b :: r => if rcat a = 1 ∧ rcat b = 1 then some (a :: b :: a :: r) else none
  | .dup2, a :: r => if rcat a = 2 then some (a :: a :: r) else
      match r with
      | b :: r2 => if rcat a = 1 ∧ rcat b = 1 then some (a :: b :: a :: b :: r2) else none
      | [] => none
  | _, _ => none
theorem rstk_ok {W : List rGr} {A : rA} {ρ : Nat → Int} {b : aSc} {i : Instr} {S S_q : List rV} {st : List Value} (h : rstk i S = some S_q) (hS : rStk W A ρ b S st) : ∃ st_q, xstk i st = some st_q ∧ rStk W A ρ b S_q st_q := by
  unfold rstk at h
  split at h
  · cases st with
    | nil => exact hS.elim
    | cons x st =>
      split at h
      · rename_i hc; cases h
        exact ⟨st, by simp only [xstk]; rw [if_pos (by rw [rcat_ok hS.1]; exact hc)], hS.2⟩
      · cases h
  · cases st with
    | nil => exact hS.elim
    | cons x st =>
      split at h
      · rename_i hc; cases h
        exact ⟨x :: x :: st, by simp only [xstk]; rw [if_pos (by rw [rcat_ok hS.1]; exact hc)], hS.1, hS.1, hS.2⟩
      · cases h
  · cases st with
    | nil => exact hS.elim
    | cons x st =>
      cases st with
      | nil => exact hS.2.elim
      | cons y st =>
        split at h
        · rename_i hc; cases h
          exact ⟨x :: y :: x :: st, by simp only [xstk]; rw [if_pos (by rw [rcat_ok hS.1, rcat_ok hS.2.1]; exact hc)], hS.1, hS.2.1, hS.1, hS.2.2⟩
        · cases h
  · cases st with
    | nil => exact hS.elim
    | cons x st =>
      split at h
      · rename_i hc; cases h
        exact ⟨x :: x :: st, by simp only [xstk]; rw [if_pos (by rw [rcat_ok hS.1]; exact hc)], hS.1, hS.1, hS.2⟩
      · rename_i hn
        split at h
        · cases st with
          | nil => exact hS.2.elim
          | cons y st =>
            split at h
            · rename_i hc; cases h
              refine ⟨x :: y :: x :: y :: st, ?_, hS.1, hS.2.1, hS.1, hS.2.1, hS.2.2⟩
              simp only [xstk]
              rw [if_neg (by rw [rcat_ok hS.1]; exact hn), if_pos (by rw [rcat_ok hS.1, rcat_ok hS.2.1]; exact hc)]
            · cases h
        · cases h
  · cases h
noncomputable def rsS (σ : rS) (i : Instr) (len pc : Nat) : Option (List (Nat × rS)) := if len = 1 then (rstk i σ.2.2.2.1).map (fun S => [(pc + 1, rWS σ S)]) else none
noncomputable def rsL (σ : rS) (i : Instr) (len pc : Nat) : Option (List (Nat × rS)) := match xldi i with
  | some q => (match rgt σ.2.2.1 q.1 with
    | some v => if rsort v = q.2.1 ∧ q.2.2 = len then some [(pc + len, rWS σ (v :: σ.2.2.2.1))] else none
    | none => none)
  | none => none
noncomputable def rsW (nL : Nat) (σ : rS) (i : Instr) (len pc : Nat) : Option (List (Nat × rS)) := match xsti i with
  | some q => (match σ.2.2.2.1 with
    | v :: S => if rsort v = q.2.1 ∧ q.2.2 = len ∧ q.1 + rcat v ≤ nL then some [(pc + len, (σ.1, σ.2.1, rset σ.2.2.1 q.1 v, S, σ.2.2.2.2))] else none
    | [] => none)
  | none => none
noncomputable def rsI (nL : Nat) (σ : rS) (i : Instr) (len pc : Nat) : Option (List (Nat × rS)) := match i with
  | .iinc ix z => (match rgt σ.2.2.1 ix with
    | some v => if v.1 = 0 ∧ len = 3 ∧ ix < nL ∧ -2147483648 ≤ z ∧ z ≤ 2147483647 ∧ rFit σ.1 σ.2.1 0 (rPl v.2.2 z) = true then some [(pc + 3, (σ.1, σ.2.1, rset σ.2.2.1 ix (0, 0, rPl v.2.2 z), σ.2.2.2.1, σ.2.2.2.2))] else none
    | none => none)
  | _ => none
noncomputable def rNul (σ : rS) (tn tr : Nat) : Option (List (Nat × rS)) := match σ.2.2.2.1 with
  | v :: S => if v.1 = 3 then some [(tn, rWS σ S)] else if v.1 = 2 ∨ v.1 = 7 then some [(tr, rWS σ S)] else none
  | [] => none
noncomputable def rsB (σ : rS) (i : Instr) (len pc : Nat) : Option (List (Nat × rS)) := match i with
  | .goto off => (match aTg pc off with | some tg => if len = 3 then some [(tg, σ)] else none | none => none)
  | .ifCond cd off => (match σ.2.2.2.1 with
    | a :: S => (match aTg pc off with | some tg => if a.1 = 0 ∧ len = 3 then some (rTwo σ S cd a.2.2 (rC 0) tg (pc + 3)) else none | none => none)
    | [] => none)
  | .if_icmp cd off => (match σ.2.2.2.1 with
    | d :: a :: S => (match aTg pc off with | some tg => if a.1 = 0 ∧ d.1 = 0 ∧ len = 3 then some (rTwo σ S cd a.2.2 d.2.2 tg (pc + 3)) else none | none => none)
    | _ => none)
  | .ifnull off => (match aTg pc off with | some tg => if len = 3 then rNul σ tg (pc + 3) else none | none => none)
  | .ifnonnull off => (match aTg pc off with | some tg => if len = 3 then rNul σ (pc + 3) tg else none | none => none)
  | _ => none
noncomputable def rsC (σ : rS) (nx : Option (Instr × Nat)) (i : Instr) (len pc : Nat) : Option (List (Nat × rS)) := match i with
  | .lcmp => (match σ.2.2.2.1 with
    | d :: a :: S => (match nx with
      | some (.ifCond cd off, len2) => (match aTg (pc + 1) off with | some tg => if a.1 = 1 ∧ d.1 = 1 ∧ len = 1 ∧ len2 = 3 then some (rTwo σ S cd a.2.2 d.2.2 tg (pc + 4)) else none | none => none)
      | _ => none)
    | _ => none)
  | _ => none
section XQr
variable {p : Program} {l : Launch} {e : Env} {R0 : Room} {s : State} {m : MethodId} {args : Array Value} {below : List Frame} {meth : Method} {c : Code} {Q : State → Prop} {K9 N9 : Nat}
variable {cc : ByteArray} {nL : Nat} {Ts : List Cond} {own : String} {D : va_G} {dA : Nat → ClassId} {cl : List vw_C} {tA : List (Nat × FieldType)} {tyf : Nat → Nat → FieldType} {B : Nat}
variable {W : List rGr} {T : List rIT} {A : rA} {b : aSc} {i0 : List Nat} {ρ : Nat → Int} {γ : Nat → rHp} {σ : rS} {pc len : Nat} {lv : List (Nat × Value)} {st : List Value} {h : xH} {i : Instr} {l1 : List (Nat × rS)}
theorem rTwo_in {S : List rV} {cd : ClassFile.Cond} {x y : rX} {tg pc_q : Nat} {cdx : ClassFile.Cond} {q : aRg × List rX} {t1 : Nat} (h1 : (cdx = cd ∧ t1 = tg) ∨ (cdx = aNeg cd ∧ t1 = pc_q)) (hr : rRf σ.1 σ.2.1 cdx x y = some q) : (t1, rWG σ S q) ∈ rTwo σ S cd x y tg pc_q := by
  unfold rTwo
  rcases h1 with ⟨rfl, rfl⟩ | ⟨rfl, rfl⟩
  · rw [hr]; simp
  · rw [hr]; simp
theorem rs0_ok (C : xCx p s m args c cc nL Ts own D dA cl tA tyf B) (hA : rSt W T B A b i0 ρ γ σ lv st h) (hdg : decode cc pc = .ok (i, len)) (hs : rs0 σ i len pc = some l1) (kk : (∀ q ∈ l1, ∀ (ρ_q : Nat → Int) (γ_q : Nat → rHp) (lv_q : List (Nat × Value)) (st_q : List Value) (h_q : xH), rSm0 σ ρ ρ_q γ γ_q → rSt W T B A b i0 ρ_q γ_q q.2 lv_q st_q h_q → xSafe p l e R0 s m args below meth c nL D dA cl tA B Q q.1 lv_q st_q h_q (q.2.2.2.2.2.2.2.1 + K9) (q.2.2.2.2.2.2.2.2 + N9))) : xSafe p l e R0 s m args below meth c nL D dA cl tA B Q pc lv st h (σ.2.2.2.2.2.2.1 + K9) (σ.2.2.2.2.2.2.2 + N9) := by
  unfold rs0 at hs
  split at hs
  · rename_i q hq
    split at hs
    · rename_i hl
      subst hl
      split at hs
      · rename_i z hz
        cases hs
        rw [← Prod.eta q, hz] at hq
        exact xs_op0 C hq hdg (kk _ List.mem_cons_self ρ γ lv _ h rSm0_rf ⟨hA.1, hA.2.1, ⟨⟨z, rfl, by rw [rE_c]⟩, hA.2.2.1⟩, hA.2.2.2⟩)
      · rename_i z hz
        cases hs
        rw [← Prod.eta q, hz] at hq
        exact xs_op0 C hq hdg (kk _ List.mem_cons_self ρ γ lv _ h rSm0_rf ⟨hA.1, hA.2.1, ⟨⟨z, rfl, by rw [rE_c]⟩, hA.2.2.1⟩, hA.2.2.2⟩)
      · rename_i hz
        cases hs
        rw [← Prod.eta q, hz] at hq
        exact xs_op0 C hq hdg (kk _ List.mem_cons_self ρ γ lv _ h rSm0_rf ⟨hA.1, hA.2.1, ⟨rfl, hA.2.2.1⟩, hA.2.2.2⟩)
      · cases hs
    · cases hs
  · cases hs
theorem rs1_ok (C : xCx p s m args c cc nL Ts own D dA cl tA tyf B) (hA : rSt W T B A b i0 ρ γ σ lv st h) (hdg : decode cc pc = .ok (i, len)) (hs : rs1 σ i len pc = some l1) (kk : (∀ q ∈ l1, ∀ (ρ_q : Nat → Int) (γ_q : Nat → rHp) (lv_q : List (Nat × Value)) (st_q : List Value) (h_q : xH), rSm0 σ ρ ρ_q γ γ_q → rSt W T B A b i0 ρ_q γ_q q.2 lv_q st_q h_q → xSafe p l e R0 s m args below meth c nL D dA cl tA B Q q.1 lv_q st_q h_q (q.2.2.2.2.2.2.2.1 + K9) (q.2.2.2.2.2.2.2.2 + N9))) : xSafe p l e R0 s m args below meth c nL D dA cl tA B Q pc lv st h (σ.2.2.2.2.2.2.1 + K9) (σ.2.2.2.2.2.2.2 + N9) := by
  unfold rs1 at hs
  split at hs
  · rename_i a S hS
    split at hs
    · rename_i hl
      subst hl
      split at hs
      · rename_i q hq
        cases hp : rPu σ S q.1 q.2 with
        | none => rw [hp] at hs; cases hs
        | some σ_q =>
          rw [hp] at hs
          cases hs
          have h3 := hA.2.2.1
          rw [hS] at h3
          obtain ⟨x, st_q, rfl, hx, h4⟩ := rStk_cons h3
          obtain ⟨y, hy, hv⟩ := rop1_ok hA.1.1 (show rop1 σ.1 i a = some (q.1, q.2) from hq) hx
          obtain ⟨ρ_q, g1, g2, g3⟩ := rPu_ok (σ := σ) (S := S) (st := st_q) (h := h) ⟨hA.1, hA.2.1, h4, hA.2.2.2⟩ hp hv
          have := kk _ List.mem_cons_self ρ_q γ lv (y :: st_q) h g1 g2
          rw [g3] at this
          exact xs_op1 C hy hdg this
      · cases hs
    · cases hs
  · cases hs
theorem rs2_ok (C : xCx p s m args c cc nL Ts own D dA cl tA tyf B) (hA : rSt W T B A b i0 ρ γ σ lv st h) (hdg : decode cc pc = .ok (i, len)) (hs : rs2 σ i len pc = some l1) (kk : (∀ q ∈ l1, ∀ (ρ_q : Nat → Int) (γ_q : Nat → rHp) (lv_q : List (Nat × Value)) (st_q : List Value) (h_q : xH), rSm0 σ ρ ρ_q γ γ_q → rSt W T B A b i0 ρ_q γ_q q.2 lv_q st_q h_q → xSafe p l e R0 s m args below meth c nL D dA cl tA B Q q.1 lv_q st_q h_q (q.2.2.2.2.2.2.2.1 + K9) (q.2.2.2.2.2.2.2.2 + N9))) : xSafe p l e R0 s m args below meth c nL D dA cl tA B Q pc lv st h (σ.2.2.2.2.2.2.1 + K9) (σ.2.2.2.2.2.2.2 + N9) := by
  unfold rs2 at hs
  split at hs
  · rename_i d a S hS
    split at hs
    · rename_i hl
      subst hl
      split at hs
      · rename_i q hq
        cases hp : rPu σ S q.1 q.2 with
        | none => rw [hp] at hs; cases hs
        | some σ_q =>
          rw [hp] at hs
          cases hs
          have h3 := hA.2.2.1
          rw [hS] at h3
          obtain ⟨y, st_q, rfl, hy, h4⟩ := rStk_cons h3
          obtain ⟨x, st_q, rfl, hx, h5⟩ := rStk_cons h4
          obtain ⟨v, hv1, hv⟩ := rop2_ok hA.1.1 hA.1.2.1 (show rop2 σ.1 σ.2.1 i a d = some (q.1, q.2) from hq) hx hy
          obtain ⟨ρ_q, g1, g2, g3⟩ := rPu_ok (σ := σ) (S := S) (st := st_q) (h := h) ⟨hA.1, hA.2.1, h5, hA.2.2.2⟩ hp hv
          have := kk _ List.mem_cons_self ρ_q γ lv (v :: st_q) h g1 g2
          rw [g3] at this
          exact xs_op2 C hv1 hdg this
      · cases hs
    · cases hs
  · cases hs
theorem rsS_ok (C : xCx p s m args c cc nL Ts own D dA cl tA tyf B) (hA : rSt W T B A b i0 ρ γ σ lv st h) (hdg : decode cc pc = .ok (i, len)) (hs : rsS σ i len pc = some l1) (kk : (∀ q ∈ l1, ∀ (ρ_q : Nat → Int) (γ_q : Nat → rHp) (lv_q : List (Nat × Value)) (st_q : List Value) (h_q : xH), rSm0 σ ρ ρ_q γ γ_q → rSt W T B A b i0 ρ_q γ_q q.2 lv_q st_q h_q → xSafe p l e R0 s m args below meth c nL D dA cl tA B Q q.1 lv_q st_q h_q (q.2.2.2.2.2.2.2.1 + K9) (q.2.2.2.2.2.2.2.2 + N9))) : xSafe p l e R0 s m args below meth c nL D dA cl tA B Q pc lv st h (σ.2.2.2.2.2.2.1 + K9) (σ.2.2.2.2.2.2.2 + N9) := by
  unfold rsS at hs
  split at hs
  · rename_i hl
    subst hl
    cases ha : rstk i σ.2.2.2.1 with
    | none => rw [ha] at hs; cases hs
    | some S =>
      rw [ha] at hs
      cases hs
      obtain ⟨st_q, g1, g2⟩ := rstk_ok ha hA.2.2.1
      exact xs_stk C g1 hdg (kk _ List.mem_cons_self ρ γ lv st_q h rSm0_rf ⟨hA.1, hA.2.1, g2, hA.2.2.2⟩)
  · cases hs
theorem rsL_ok (C : xCx p s m args c cc nL Ts own D dA cl tA tyf B) (hA : rSt W T B A b i0 ρ γ σ lv st h) (hdg : decode cc pc = .ok (i, len)) (hs : rsL σ i len pc = some l1) (kk : (∀ q ∈ l1, ∀ (ρ_q : Nat → Int) (γ_q : Nat → rHp) (lv_q : List (Nat × Value)) (st_q : List Value) (h_q : xH), rSm0 σ ρ ρ_q γ γ_q → rSt W T B A b i0 ρ_q γ_q q.2 lv_q st_q h_q → xSafe p l e R0 s m args below meth c nL D dA cl tA B Q q.1 lv_q st_q h_q (q.2.2.2.2.2.2.2.1 + K9) (q.2.2.2.2.2.2.2.2 + N9))) : xSafe p l e R0 s m args below meth c nL D dA cl tA B Q pc lv st h (σ.2.2.2.2.2.2.1 + K9) (σ.2.2.2.2.2.2.2 + N9) := by
  unfold rsL at hs
  split at hs
  · rename_i q hq
    split at hs
    · rename_i v hv
      split at hs
      · rename_i hc
        cases hs
        obtain ⟨x, hx, hm⟩ := hA.2.1 _ (rgt_mem hv)
        obtain ⟨hc1, hc2⟩ := hc
        subst hc2
        exact xs_ld C (show xldi i = some (q.1, q.2.1, q.2.2) from hq) hx (by rw [rsort_ok hm]; exact hc1) hdg (kk _ List.mem_cons_self ρ γ lv (x :: st) h rSm0_rf ⟨hA.1, hA.2.1, ⟨hm, hA.2.2.1⟩, hA.2.2.2⟩)
      · cases hs
    · cases hs
  · cases hs
theorem rsW_ok (C : xCx p s m args c cc nL Ts own D dA cl tA tyf B) (hA : rSt W T B A b i0 ρ γ σ lv st h) (hdg : decode cc pc = .ok (i, len)) (hs : rsW nL σ i len pc = some l1) (kk : (∀ q ∈ l1, ∀ (ρ_q : Nat → Int) (γ_q : Nat → rHp) (lv_q : List (Nat × Value)) (st_q : List Value) (h_q : xH), rSm0 σ ρ ρ_q γ γ_q → rSt W T B A b i0 ρ_q γ_q q.2 lv_q st_q h_q → xSafe p l e R0 s m args below meth c nL D dA cl tA B Q q.1 lv_q st_q h_q (q.2.2.2.2.2.2.2.1 + K9) (q.2.2.2.2.2.2.2.2 + N9))) : xSafe p l e R0 s m args below meth c nL D dA cl tA B Q pc lv st h (σ.2.2.2.2.2.2.1 + K9) (σ.2.2.2.2.2.2.2 + N9) := by
  unfold rsW at hs
  split at hs
  · rename_i q hq
    split at hs
    · rename_i v S hS
      split at hs
      · rename_i hc
        cases hs
        have h3 := hA.2.2.1
        rw [hS] at h3
        obtain ⟨x, st_q, rfl, hx, h3⟩ := rStk_cons h3
        obtain ⟨hc1, hc2, hc3⟩ := hc
        subst hc2
        exact xs_st C (show xsti i = some (q.1, q.2.1, q.2.2) from hq) (by rw [rsort_ok hx]; exact hc1) (by rw [rcat_ok hx]; exact hc3) hdg (kk _ List.mem_cons_self ρ γ (xset lv q.1 x) st_q h rSm0_rf ⟨hA.1, rLoc_set hA.2.1 hx, h3, hA.2.2.2⟩)
      · cases hs
    · cases hs
  · cases hs
theorem rsI_ok (C : xCx p s m args c cc nL Ts own D dA cl tA tyf B) (hA : rSt W T B A b i0 ρ γ σ lv st h) (hdg : decode cc pc = .ok (i, len)) (hs : rsI nL σ i len pc = some l1) (kk : (∀ q ∈ l1, ∀ (ρ_q : Nat → Int) (γ_q : Nat → rHp) (lv_q : List (Nat × Value)) (st_q : List Value) (h_q : xH), rSm0 σ ρ ρ_q γ γ_q → rSt W T B A b i0 ρ_q γ_q q.2 lv_q st_q h_q → xSafe p l e R0 s m args below meth c nL D dA cl tA B Q q.1 lv_q st_q h_q (q.2.2.2.2.2.2.2.1 + K9) (q.2.2.2.2.2.2.2.2 + N9))) : xSafe p l e R0 s m args below meth c nL D dA cl tA B Q pc lv st h (σ.2.2.2.2.2.2.1 + K9) (σ.2.2.2.2.2.2.2 + N9) := by
  unfold rsI at hs
  split at hs
  · rename_i ix z
    split at hs
    · rename_i v hv
      split at hs
      · rename_i hc
        cases hs
        obtain ⟨hc1, hc2, hc3, hc4, hc5, hc6⟩ := hc
        subst hc2
        obtain ⟨x, hx, hm0⟩ := hA.2.1 _ (rgt_mem hv)
        have hm : rMv W A ρ b v x := hm0
        obtain ⟨w, rfl, hw⟩ := rMv_int hm hc1
        have hz : (Int32.ofInt z).toInt = z := by
          rw [Int32.toInt_ofInt]
          exact aB32 hc4 hc5
        have hf := (rFit_ok hA.1.1 hA.1.2.1 hc6).1 rfl
        rw [rE_pl] at hf
        have hm2 : rMv W A ρ b (0, 0, rPl v.2.2 z) (.int (w + Int32.ofInt z)) := ⟨_, rfl, by
          show _ = rE ρ (rPl v.2.2 z)
          rw [Int32.toInt_add, hz, aB32 (by omega) (by omega), hw, rE_pl]⟩
        exact xs_iinc C hx hc3 hdg (kk _ List.mem_cons_self ρ γ _ st h rSm0_rf ⟨hA.1, rLoc_set hA.2.1 hm2, hA.2.2.1, hA.2.2.2⟩)
      · cases hs
    · cases hs
  · cases hs
theorem rTwo_ok {S : List rV} {st1 : List Value} {cd : ClassFile.Cond} {x y : rX} {tg pc_q : Nat} (hA : rSt W T B A b i0 ρ γ (rWS σ S) lv st1 h) (hl : l1 = rTwo σ S cd x y tg pc_q) {r : Bool} (hr : r = aRelI cd (rE ρ x) (rE ρ y)) (kk : (∀ q ∈ l1, ∀ (ρ_q : Nat → Int) (γ_q : Nat → rHp) (lv_q : List (Nat × Value)) (st_q : List Value) (h_q : xH), rSm0 σ ρ ρ_q γ γ_q → rSt W T B A b i0 ρ_q γ_q q.2 lv_q st_q h_q → xSafe p l e R0 s m args below meth c nL D dA cl tA B Q q.1 lv_q st_q h_q (q.2.2.2.2.2.2.2.1 + K9) (q.2.2.2.2.2.2.2.2 + N9))) :
    (r = true → xSafe p l e R0 s m args below meth c nL D dA cl tA B Q tg lv st1 h (σ.2.2.2.2.2.2.1 + K9) (σ.2.2.2.2.2.2.2 + N9)) ∧ (r = false → xSafe p l e R0 s m args below meth c nL D dA cl tA B Q pc_q lv st1 h (σ.2.2.2.2.2.2.1 + K9) (σ.2.2.2.2.2.2.2 + N9)) := by
  subst hl
  refine ⟨fun h1 => ?_, fun h1 => ?_⟩
  · obtain ⟨q, e1, e2, e3, e4⟩ := rRf_ok hA.1.1 hA.1.2.1 (cd := cd) (x := x) (y := y) (by rw [← hr]; exact h1)
    exact kk _ (rTwo_in (Or.inl ⟨rfl, rfl⟩) e1) ρ γ lv st1 h rSm0_rf ⟨⟨e2, e3, hA.1.2.2⟩, hA.2⟩
  · obtain ⟨q, e1, e2, e3, e4⟩ := rRf_ok hA.1.1 hA.1.2.1 (cd := aNeg cd) (x := x) (y := y) (aNeg_ok (by rw [← hr]; exact h1))
    exact kk _ (rTwo_in (Or.inr ⟨rfl, rfl⟩) e1) ρ γ lv st1 h rSm0_rf ⟨⟨e2, e3, hA.1.2.2⟩, hA.2⟩
theorem rNul_ok {tn tr : Nat} (hA : rSt W T B A b i0 ρ γ σ lv st h) (hs : rNul σ tn tr = some l1) (kk : (∀ q ∈ l1, ∀ (ρ_q : Nat → Int) (γ_q : Nat → rHp) (lv_q : List (Nat × Value)) (st_q : List Value) (h_q : xH), rSm0 σ ρ ρ_q γ γ_q → rSt W T B A b i0 ρ_q γ_q q.2 lv_q st_q h_q → xSafe p l e R0 s m args below meth c nL D dA cl tA B Q q.1 lv_q st_q h_q (q.2.2.2.2.2.2.2.1 + K9) (q.2.2.2.2.2.2.2.2 + N9))) :
    ∃ v st1, st = v :: st1 ∧ xsort v = 2 ∧ (v = .null → xSafe p l e R0 s m args below meth c nL D dA cl tA B Q tn lv st1 h (σ.2.2.2.2.2.2.1 + K9) (σ.2.2.2.2.2.2.2 + N9)) ∧ (¬ v = .null → xSafe p l e R0 s m args below meth c nL D dA cl tA B Q tr lv st1 h (σ.2.2.2.2.2.2.1 + K9) (σ.2.2.2.2.2.2.2 + N9)) := by
  unfold rNul at hs
  split at hs
  · rename_i v S hS
    have h3 := hA.2.2.1
    rw [hS] at h3
    obtain ⟨x, st_q, rfl, hx, h4⟩ := rStk_cons h3
    have hA2 : rSt W T B A b i0 ρ γ (rWS σ S) lv st_q h := ⟨hA.1, hA.2.1, h4, hA.2.2.2⟩
    split at hs
    · rename_i ht
      cases hs
      have hn : x = .null := by unfold rMv at hx; rw [ht] at hx; exact hx
      subst hn
      exact ⟨_, _, rfl, rfl, fun _ => kk _ List.mem_cons_self ρ γ lv st_q h rSm0_rf hA2, fun q => absurd rfl q⟩
    · split at hs
      · rename_i ht
        cases hs
        have hn : ∃ a, x = .ref a := by
          unfold rMv at hx
          rcases ht with ht | ht <;> rw [ht] at hx
          · exact ⟨_, hx.1⟩
          · exact ⟨_, hx.1⟩
        obtain ⟨a, rfl⟩ := hn
        exact ⟨_, _, rfl, rfl, (fun q => by cases q), fun _ => kk _ List.mem_cons_self ρ γ lv st_q h rSm0_rf hA2⟩
      · cases hs
  · cases hs
theorem rsB_ok (C : xCx p s m args c cc nL Ts own D dA cl tA tyf B) (hA : rSt W T B A b i0 ρ γ σ lv st h) (hdg : decode cc pc = .ok (i, len)) (hs : rsB σ i len pc = some l1) (kk : (∀ q ∈ l1, ∀ (ρ_q : Nat → Int) (γ_q : Nat → rHp) (lv_q : List (Nat × Value)) (st_q : List Value) (h_q : xH), rSm0 σ ρ ρ_q γ γ_q → rSt W T B A b i0 ρ_q γ_q q.2 lv_q st_q h_q → xSafe p l e R0 s m args below meth c nL D dA cl tA B Q q.1 lv_q st_q h_q (q.2.2.2.2.2.2.2.1 + K9) (q.2.2.2.2.2.2.2.2 + N9))) : xSafe p l e R0 s m args below meth c nL D dA cl tA B Q pc lv st h (σ.2.2.2.2.2.2.1 + K9) (σ.2.2.2.2.2.2.2 + N9) := by
  unfold rsB at hs
  split at hs
  · split at hs
    · rename_i tg htg
      split at hs
      · rename_i hl
        cases hs
        subst hl
        exact xs_goto C (aTg_ok htg) hdg (kk _ List.mem_cons_self ρ γ lv st h rSm0_rf hA)
      · cases hs
    · cases hs
  · rename_i cd off
    split at hs
    · rename_i a S hS
      split at hs
      · rename_i tg htg
        split at hs
        · rename_i hc
          obtain ⟨c1, rfl⟩ := hc
          have h3 := hA.2.2.1
          rw [hS] at h3
          obtain ⟨x, st_q, rfl, hx, h4⟩ := rStk_cons h3
          obtain ⟨z, rfl, hz⟩ := rMv_int hx c1
          have hA2 : rSt W T B A b i0 ρ γ (rWS σ S) lv st_q h := ⟨hA.1, hA.2.1, h4, hA.2.2.2⟩
          have e0 : (0 : Int32).toInt = 0 := by decide
          obtain ⟨k1, k2⟩ := rTwo_ok (r := xcmp cd z 0) hA2 (Option.some.inj hs).symm (by rw [xcmp_rel, e0, hz, rE_c]) kk
          exact xs_if C (aTg_ok htg) hdg k1 k2
        · cases hs
      · cases hs
    · cases hs
  · rename_i cd off
    split at hs
    · rename_i d a S hS
      split at hs
      · rename_i tg htg
        split at hs
        · rename_i hc
          obtain ⟨c1, c2, rfl⟩ := hc
          have h3 := hA.2.2.1
          rw [hS] at h3
          obtain ⟨y, st_q, rfl, hy, h4⟩ := rStk_cons h3
          obtain ⟨x, st_q, rfl, hx, h5⟩ := rStk_cons h4
          obtain ⟨z, rfl, hz⟩ := rMv_int hx c1
          obtain ⟨w, rfl, hw⟩ := rMv_int hy c2
          have hA2 : rSt W T B A b i0 ρ γ (rWS σ S) lv st_q h := ⟨hA.1, hA.2.1, h5, hA.2.2.2⟩
          obtain ⟨k1, k2⟩ := rTwo_ok (r := xcmp cd z w) hA2 (Option.some.inj hs).symm (by rw [xcmp_rel, hz, hw]) kk
          exact xs_icmp C (aTg_ok htg) hdg k1 k2
        · cases hs
      · cases hs
    · cases hs
  · split at hs
    · rename_i tg htg
      split at hs
      · rename_i hl
        subst hl
        obtain ⟨v, st1, rfl, e1, e2, e3⟩ := rNul_ok hA hs kk
        exact xs_null C e1 (aTg_ok htg) hdg e2 e3
      · cases hs
    · cases hs
  · split at hs
    · rename_i tg htg
      split at hs
      · rename_i hl
        subst hl
        obtain ⟨v, st1, rfl, e1, e2, e3⟩ := rNul_ok hA hs kk
        exact xs_nonnull C e1 (aTg_ok htg) hdg e3 e2
      · cases hs
    · cases hs
  · cases hs
theorem rsC_ok (C : xCx p s m args c cc nL Ts own D dA cl tA tyf B) (hA : rSt W T B A b i0 ρ γ σ lv st h) (hdg : decode cc pc = .ok (i, len)) {nx : Option (Instr × Nat)} (hnx : ∀ q, nx = some q → decode cc (pc + 1) = .ok (q.1, q.2)) (hs : rsC σ nx i len pc = some l1) (kk : (∀ q ∈ l1, ∀ (ρ_q : Nat → Int) (γ_q : Nat → rHp) (lv_q : List (Nat × Value)) (st_q : List Value) (h_q : xH), rSm0 σ ρ ρ_q γ γ_q → rSt W T B A b i0 ρ_q γ_q q.2 lv_q st_q h_q → xSafe p l e R0 s m args below meth c nL D dA cl tA B Q q.1 lv_q st_q h_q (q.2.2.2.2.2.2.2.1 + K9) (q.2.2.2.2.2.2.2.2 + N9))) : xSafe p l e R0 s m args below meth c nL D dA cl tA B Q pc lv st h (σ.2.2.2.2.2.2.1 + K9) (σ.2.2.2.2.2.2.2 + N9) := by
  unfold rsC at hs
  split at hs
  · split at hs
    · rename_i d a S hS
      split at hs
      · rename_i cd off len2
        split at hs
        · rename_i tg htg
          split at hs
          · rename_i hc
            obtain ⟨hc1, hc2, hc3, hc4⟩ := hc
            subst hc3
            subst hc4
            have hd2 : decode cc (pc + 1) = .ok (.ifCond cd off, 3) := hnx _ rfl
            have h3 := hA.2.2.1
            rw [hS] at h3
            obtain ⟨y, st_q, rfl, hy, h4⟩ := rStk_cons h3
            obtain ⟨x, st_q, rfl, hx, h5⟩ := rStk_cons h4
            obtain ⟨z, rfl, hz⟩ := rMv_lng hx hc1
            obtain ⟨w, rfl, hw⟩ := rMv_lng hy hc2
            have hA2 : rSt W T B A b i0 ρ γ (rWS σ S) lv st_q h := ⟨hA.1, hA.2.1, h5, hA.2.2.2⟩
            obtain ⟨k1, k2⟩ := rTwo_ok (r := xcmp cd (lg_cmp z w) 0) hA2 (Option.some.inj hs).symm (by rw [lcmp_rel, hz, hw]) kk
            exact xs_op2 C (v := .int (lg_cmp z w)) rfl hdg (xs_if C (aTg_ok htg) hd2 k1 k2)
          · cases hs
        · cases hs
      · cases hs
    · cases hs
  · cases hs
end XQr
