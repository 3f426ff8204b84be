/-! ===== a heap that stands fast but for numbers ===== -/
noncomputable def rTy (q : rGr) (j : Nat) : rT := if q.1 < 1000 then q.2.2.2.getD j (9, 0, 0, 0, 0, 0, 0) else q.2.2.2.getD 0 (9, 0, 0, 0, 0, 0, 0)
noncomputable def rEn (A : rA) (t : rT) (k j d : Int) (x : Value) : Prop := match t.1 with
  | 0 => ∃ z : Int32, x = .int z ∧ z.toInt = d
  | 1 => ∃ z : Int64, x = .long z ∧ z.toInt = d
  | 2 => x = .ref (A t.2.2.2.1 (t.2.2.2.2.1 * k + t.2.2.2.2.2.1 + t.2.2.2.2.2.2 * j))
  | 3 => x = .ref (A t.2.2.2.1 d)
  | _ => False
noncomputable def rLay (W : List rGr) (B : Nat) (A : rA) (g : rHp) (h : xH) : Prop :=
  ∀ (G : Nat) (q : rGr), W[G]? = some q → ∀ k : Int, 0 ≤ k → k < q.2.2.1 → B ≤ A G k ∧ ∃ V : Nat → Value, h (A G k) = some (q.1, q.2.1, V) ∧ ∀ j : Nat, j < q.2.1 → rEn A (rTy q j) k j (g G k j) (V j)
noncomputable def rInj (W : List rGr) (A : rA) : Prop := ∀ (G G_q : Nat) (q q_q : rGr) (k k_q : Int), W[G]? = some q → W[G_q]? = some q_q → 0 ≤ k → k < q.2.2.1 → 0 ≤ k_q → k_q < q_q.2.2.1 → A G k = A G_q k_q → G = G_q ∧ k = k_q
noncomputable def rRg (W : List rGr) (g : rHp) : Prop := ∀ (G : Nat) (q : rGr), W[G]? = some q → ∀ k j : Int, (rTy q j.toNat).2.1 ≤ g G k j ∧ g G k j ≤ (rTy q j.toNat).2.2.1
noncomputable def rUp (g : rHp) (G : Nat) (k j v : Int) : rHp := fun G_q k_q j_q => if G_q = G ∧ k_q = k ∧ j_q = j then v else g G_q k_q j_q
theorem rUp_at {g : rHp} {G : Nat} {k j v : Int} : rUp g G k j v G k j = v := by simp [rUp]
theorem rUp_ne {g : rHp} {G G_q : Nat} {k j v k_q j_q : Int} (h : ¬ (G_q = G ∧ k_q = k ∧ j_q = j)) : rUp g G k j v G_q k_q j_q = g G_q k_q j_q := by simp only [rUp]; rw [if_neg h]
noncomputable def rMv (W : List rGr) (A : rA) (ρ : Nat → Int) (b : aSc) (v : rV) (x : Value) : Prop := match v.1 with
  | 0 => ∃ z : Int32, x = .int z ∧ z.toInt = rE ρ v.2.2
  | 1 => ∃ z : Int64, x = .long z ∧ z.toInt = rE ρ v.2.2
  | 2 => x = .ref (A v.2.1 (rE ρ v.2.2)) ∧ ∃ q, W[v.2.1]? = some q ∧ 0 ≤ rE ρ v.2.2 ∧ rE ρ v.2.2 < q.2.2.1
  | 3 => x = .null
  | 7 => x = .ref b.1 ∧ rE ρ v.2.2 = (b.2.1 : Int)
  | 8 => ∃ a : Nat, x = .ref a
  | _ => False
/-- is the bit set -/
noncomputable def rTb (m i : Nat) : Bool := Nat.beq (Nat.land (Nat.shiftRight m i) 1) 1
theorem rTb_eq {m i : Nat} : rTb m i = Nat.testBit m i := by
  have h1 : Nat.land (Nat.shiftRight m i) 1 = (m >>> i) % 2 := Nat.and_one_is_mod (m >>> i)
  have h2 : Nat.testBit m i = decide ((m >>> i) % 2 = 1) := by
    rw [Nat.testBit_eq_decide_div_mod_eq, Nat.shiftRight_eq_div_pow]
  unfold rTb
  rw [h1, h2]
  cases hb : Nat.beq ((m >>> i) % 2) 1 with
  | true => rw [decide_eq_true (Nat.eq_of_beq_eq_true hb)]
  | false => rw [decide_eq_false (fun e => by rw [e] at hb; cases hb)]
/-- which places may have changed, as bits: 128 for each group of objects, one for each group of arrays -/
noncomputable def rMdP (ms : Nat) (G : Nat) (j : Int) : Prop := (G < 16 ∧ ∃ n : Nat, j = (n : Int) ∧ n < 128 ∧ Nat.testBit ms (128 * G + n) = true) ∨ (16 ≤ G ∧ Nat.testBit ms (2048 + G) = true)
noncomputable def rMb (b : Bool) (ms : Nat) (G : Nat) (j : rX) : Bool := rCo (Nat.ble (Nat.succ G) 16)
  (@List.rec (Nat × Int) (fun _ => Bool) (@Int.rec (fun _ => Bool) (fun n => rCo (Nat.ble (Nat.succ n) 128) (rTb ms (Nat.add (Nat.mul 128 G) n)) false) (fun _ => false) j.2) (fun _ _ _ => b) j.1) (rTb ms (Nat.add 2048 G))
/-- may the place have changed -/
noncomputable def rMd (ms : Nat) (G : Nat) (j : rX) : Bool := rMb true ms G j
theorem rCst {ρ : Nat → Int} {x : rX} (h : x.1 = []) : rE ρ x = x.2 := by
  unfold rE
  rw [h]
  simp [rSm]
theorem rMd_ok {ms : Nat} {G : Nat} {j : rX} {ρ : Nat → Int} (h : rMd ms G j = false) : ¬ rMdP ms G (rE ρ j) := by
  unfold rMd rMb at h
  rintro (⟨h1, n, h2, h3, h4⟩ | ⟨h1, h2⟩)
  · rw [show Nat.ble (Nat.succ G) 16 = true from Nat.ble_eq_true_of_le h1, rCo_t] at h
    cases hj : j.1 with
    | cons q r => rw [hj] at h; cases h
    | nil =>
      rw [hj] at h
      rw [rCst hj] at h2
      rw [h2] at h
      have h : rCo (Nat.ble (Nat.succ n) 128) (rTb ms (128 * G + n)) false = false := h
      rw [show Nat.ble (Nat.succ n) 128 = true from Nat.ble_eq_true_of_le h3, rCo_t, rTb_eq, h4] at h
      cases h
  · have hb : Nat.ble (Nat.succ G) 16 = false := by
      cases hb : Nat.ble (Nat.succ G) 16 with
      | true => exact absurd (Nat.le_of_ble_eq_true hb) (by omega)
      | false => rfl
    rw [hb, rCo_f, rTb_eq] at h
    have h : Nat.testBit ms (2048 + G) = false := h
    rw [h2] at h
    cases h
theorem rMb_ok {ms : Nat} {G : Nat} {j : rX} {ρ : Nat → Int} (h : rMb false ms G j = true) : rMdP ms G (rE ρ j) := by
  unfold rMb at h
  cases hb : Nat.ble (Nat.succ G) 16 with
  | true =>
    rw [hb, rCo_t] at h
    cases hj : j.1 with
    | cons q r => rw [hj] at h; cases h
    | nil =>
      rw [hj] at h
      rw [rCst hj]
      cases hz : j.2 with
      | negSucc n => rw [hz] at h; cases h
      | ofNat n =>
        rw [hz] at h
        have h : rCo (Nat.ble (Nat.succ n) 128) (rTb ms (128 * G + n)) false = true := h
        obtain ⟨h1, h2⟩ := rcn.mp h
        rw [rTb_eq] at h2
        exact Or.inl ⟨Nat.le_of_ble_eq_true hb, n, rfl, Nat.le_of_ble_eq_true h1, h2⟩
  | false =>
    rw [hb, rCo_f, rTb_eq] at h
    refine Or.inr ⟨?_, h⟩
    have : ¬ (G + 1 ≤ 16) := fun e => by
      rw [show Nat.ble (Nat.succ G) 16 = true from Nat.ble_eq_true_of_le e] at hb
      cases hb
    omega
theorem rMdP_sub {a b : Nat} (h : Nat.land a b = b) {G : Nat} {j : Int} (hp : rMdP b G j) : rMdP a G j := by
  have key : ∀ i, Nat.testBit b i = true → Nat.testBit a i = true := fun i hi => by
    have h2 : a &&& b = b := h
    rw [← h2, Nat.testBit_and, Bool.and_eq_true] at hi
    exact hi.1
  rcases hp with ⟨h1, n, h2, h3, h4⟩ | ⟨h1, h2⟩
  · exact Or.inl ⟨h1, n, h2, h3, key _ h4⟩
  · exact Or.inr ⟨h1, key _ h2⟩
theorem rMdP_one {G : Nat} {j : Int} (h : 16 ≤ G) : rMdP (Nat.shiftLeft 1 (2048 + G)) G j := by
  refine Or.inr ⟨h, ?_⟩
  show Nat.testBit (1 <<< (2048 + G)) (2048 + G) = true
  rw [Nat.testBit_shiftLeft]
  simp
noncomputable def rCe (g : rHp) : Nat → List (Nat × rX × rX) → (Nat → Int) → (Nat → Int)
  | _, [], ρ => ρ
  | n, q :: r, ρ => rCe g (n + 1) r (aUp ρ n (g q.1 (rE ρ q.2.1) (rE ρ q.2.2)))
noncomputable def rPs (p : List Int) : Nat → Int := fun i => p.getD i 0
noncomputable def rIv (g : rHp) (iv : rIT) : Prop := ∀ p : List Int, p.length = iv.1.length → (∀ (i : Nat) (q : Int × Int), iv.1[i]? = some q → q.1 ≤ rPs p i ∧ rPs p i ≤ q.2) → rFa (rCe g iv.1.length iv.2.1 (rPs p)) iv.2.2.1 → rFa (rCe g iv.1.length iv.2.1 (rPs p)) iv.2.2.2.1
noncomputable def rIvs (T : List rIT) (g : rHp) (is : List Nat) : Prop := ∀ i ∈ is, ∀ iv, T[i]? = some iv → rIv g iv
noncomputable def rD1 (T : List rIT) (ρ : Nat → Int) (g g_q : rHp) (d : rD) : Prop :=
  if d.1 = 0 then g_q = rUp g d.2.1.1 (rE ρ d.2.1.2.1) (rE ρ d.2.1.2.2.1) (rE ρ d.2.1.2.2.2)
  else (∀ (G : Nat) (k j : Int), ¬ rMdP d.2.2.1 G j → g_q G k j = g G k j) ∧ rIvs T g_q d.2.2.2
noncomputable def rCh (T : List rIT) (ρ : Nat → Int) (γ : Nat → rHp) : List rD → Prop
  | [] => True
  | d :: r => rD1 T ρ (γ r.length) (γ (r.length + 1)) d ∧ rCh T ρ γ r
noncomputable def rMo (ρ : Nat → Int) (γ : Nat → rHp) (M : List rMm) : Prop := ∀ q ∈ M, γ q.1 q.2.1 (rE ρ q.2.2.1) (rE ρ q.2.2.2.1) = rE ρ q.2.2.2.2
noncomputable def rLoc (W : List rGr) (A : rA) (ρ : Nat → Int) (b : aSc) (L : List (Nat × rV)) (lv : List (Nat × Value)) : Prop := ∀ q ∈ L, ∃ x, xget lv q.1 = some x ∧ rMv W A ρ b q.2 x
noncomputable def rStk (W : List rGr) (A : rA) (ρ : Nat → Int) (b : aSc) : List rV → List Value → Prop
  | [], [] => True
  | v :: vs, x :: xs => rMv W A ρ b v x ∧ rStk W A ρ b vs xs
  | _, _ => False
/-- what is known of numbers and heaps, without locals and stack -/
noncomputable def rK (W : List rGr) (T : List rIT) (i0 : List Nat) (ρ : Nat → Int) (γ : Nat → rHp) (R : aRg) (Γ : List rX) (ch : List rD) (M : List rMm) : Prop :=
  aOkR R ρ ∧ rFa ρ Γ ∧ rCh T ρ γ ch ∧ rMo ρ γ M ∧ (∀ n, n ≤ ch.length → rRg W (γ n)) ∧ rIvs T (γ 0) i0
noncomputable def rSt (W : List rGr) (T : List rIT) (B : Nat) (A : rA) (b : aSc) (i0 : List Nat) (ρ : Nat → Int) (γ : Nat → rHp) (σ : rS) (lv : List (Nat × Value)) (st : List Value) (h : xH) : Prop :=
  rK W T i0 ρ γ σ.1 σ.2.1 σ.2.2.2.2.1 σ.2.2.2.2.2.1 ∧ rLoc W A ρ b σ.2.2.1 lv ∧ rStk W A ρ b σ.2.2.2.1 st ∧ rLay W B A (γ σ.2.2.2.2.1.length) h
/-! ===== a new number ===== -/
noncomputable def rWd (n : Nat) (d : rD) : Bool := rWx n d.2.1.2.1 && rWx n d.2.1.2.2.1 && rWx n d.2.1.2.2.2
noncomputable def rWm (n v : Nat) (q : rMm) : Bool := Nat.ble q.1 v && rWx n q.2.2.1 && rWx n q.2.2.2.1 && rWx n q.2.2.2.2
noncomputable def rWk (R : aRg) (Γ : List rX) (ch : List rD) (M : List rMm) : Bool := rAa (rWx R.length) Γ && rAa (rWd R.length) ch && rAa (rWm R.length ch.length) M
theorem rCh_same {T : List rIT} {n : Nat} {ρ ρ_q : Nat → Int} {γ : Nat → rHp} (hs : ∀ k, k < n → ρ_q k = ρ k) : ∀ {ch : List rD}, ch.all (rWd n) = true → rCh T ρ γ ch → rCh T ρ_q γ ch
  | [], _, _ => trivial
  | d :: r, hw, h => by
    simp only [List.all_cons, Bool.and_eq_true] at hw
    refine ⟨?_, rCh_same hs hw.2 h.2⟩
    have h1 := h.1
    have hw1 := hw.1
    simp only [rWd, Bool.and_eq_true] at hw1
    unfold rD1 at h1 ⊢
    split
    · rename_i e
      rw [if_pos e] at h1
      rw [rE_same hs hw1.1.1, rE_same hs hw1.1.2, rE_same hs hw1.2]
      exact h1
    · rename_i e
      rw [if_neg e] at h1
      exact h1
theorem rMo_same {n v : Nat} {ρ ρ_q : Nat → Int} {γ γ_q : Nat → rHp} {M : List rMm} (hs : ∀ k, k < n → ρ_q k = ρ k) (hg : ∀ k, k ≤ v → γ_q k = γ k) (hw : M.all (rWm n v) = true) (h : rMo ρ γ M) : rMo ρ_q γ_q M := by
  intro q hq
  have h1 := List.all_eq_true.mp hw q hq
  simp only [rWm, Bool.and_eq_true] at h1
  rw [hg _ (Nat.le_of_ble_eq_true h1.1.1.1), rE_same hs h1.1.1.2, rE_same hs h1.1.2, rE_same hs h1.2]
  exact h q hq
theorem rFa_same {n : Nat} {ρ ρ_q : Nat → Int} {Γ : List rX} (hs : ∀ k, k < n → ρ_q k = ρ k) (hw : Γ.all (rWx n) = true) (h : rFa ρ Γ) : rFa ρ_q Γ := by
  intro x hx
  rw [rE_same hs (List.all_eq_true.mp hw x hx)]
  exact h x hx
theorem rK_new {W : List rGr} {T : List rIT} {i0 : List Nat} {ρ : Nat → Int} {γ : Nat → rHp} {R : aRg} {Γ : List rX} {ch : List rD} {M : List rMm} {lo hi z : Int} (h : rK W T i0 ρ γ R Γ ch M) (hw : rWk R Γ ch M = true) (h1 : lo ≤ z) (h2 : z ≤ hi) : rK W T i0 (aUp ρ R.length z) γ (R ++ [(lo, hi)]) Γ ch M := by
  simp only [rWk, rAa_eq, Bool.and_eq_true] at hw
  have hs : ∀ k, k < R.length → aUp ρ R.length z k = ρ k := fun k hk => aUp_ne _ _ (by omega)
  exact ⟨aOkR_new h.1 h1 h2, rFa_same hs hw.1.1 h.2.1, rCh_same hs hw.1.2 h.2.2.1, rMo_same hs (fun _ _ => rfl) hw.2 h.2.2.2.1, h.2.2.2.2⟩
/-! ===== reading a place ===== -/
/-- where the place was written last: the value, or the version -/
noncomputable def rRd (R : aRg) (Γ : List rX) (G : Nat) (k j : rX) (ch : List rD) : Nat ⊕ rX := @List.rec rD (fun _ => Nat ⊕ rX) (.inl 0)
  (fun d r ih => rCo (Nat.beq d.1 0)
    (rCo (Nat.beq d.2.1.1 G) (rCo (rCo (rXq d.2.1.2.1 k) (rXq d.2.1.2.2.1 j) false) (.inr d.2.1.2.2.2) (rCo (rCo (rNe R Γ 1 (rSb k d.2.1.2.1)) true (rNe R Γ 1 (rSb j d.2.1.2.2.1))) ih
      (rCo (rCo (rZe R Γ 1 (rSb k d.2.1.2.1)) (rZe R Γ 1 (rSb j d.2.1.2.2.1)) false) (.inr d.2.1.2.2.2) (.inl (r.length + 1))))) ih)
    (rCo (rMd d.2.2.1 G j) (.inl (r.length + 1)) ih)) ch
theorem rRd_cons {R : aRg} {Γ : List rX} {G : Nat} {k j : rX} {d : rD} {r : List rD} : rRd R Γ G k j (d :: r) = if d.1 = 0 then
      (if d.2.1.1 = G then (if rXq d.2.1.2.1 k = true ∧ rXq d.2.1.2.2.1 j = true then .inr d.2.1.2.2.2 else if rNe R Γ 1 (rSb k d.2.1.2.1) = true ∨ rNe R Γ 1 (rSb j d.2.1.2.2.1) = true then rRd R Γ G k j r
        else if rZe R Γ 1 (rSb k d.2.1.2.1) = true ∧ rZe R Γ 1 (rSb j d.2.1.2.2.1) = true then .inr d.2.1.2.2.2 else .inl (r.length + 1)) else rRd R Γ G k j r)
    else (if rMd d.2.2.1 G j = true then .inl (r.length + 1) else rRd R Γ G k j r) := by
  rw [← rca, ← rco, ← rca, ← rcb, ← rct, ← rcb]
  rfl
noncomputable def rRdP (ρ : Nat → Int) (γ : Nat → rHp) (G : Nat) (k j : rX) (z : Int) : Nat ⊕ rX → Prop
  | .inl n => z = γ n G (rE ρ k) (rE ρ j)
  | .inr v => z = rE ρ v
theorem rRd_ok {T : List rIT} {R : aRg} {Γ : List rX} {ρ : Nat → Int} {γ : Nat → rHp} {G : Nat} {k j : rX} (hR : aOkR R ρ) (hΓ : rFa ρ Γ) : ∀ {ch : List rD}, rCh T ρ γ ch → rRdP ρ γ G k j (γ ch.length G (rE ρ k) (rE ρ j)) (rRd R Γ G k j ch)
  | [], _ => rfl
  | d :: r, h => by
    have h1 := h.1
    have ih := rRd_ok hR hΓ (G := G) (k := k) (j := j) h.2
    unfold rD1 at h1
    rw [rRd_cons]
    split
    · rename_i e
      rw [if_pos e] at h1
      split
      · rename_i eG
        split
        · rename_i ekj
          simp only [rRdP, List.length_cons]
          rw [h1, eG, rXq_ok ekj.1, rXq_ok ekj.2]
          exact rUp_at
        · split
          · rename_i hn
            have : γ (d :: r).length G (rE ρ k) (rE ρ j) = γ r.length G (rE ρ k) (rE ρ j) := by
              simp only [List.length_cons]
              rw [h1]
              refine rUp_ne ?_
              rintro ⟨-, e1, e2⟩
              rcases hn with hn | hn
              · have := rNe_ok hR hΓ hn
                rw [rE_sb] at this
                omega
              · have := rNe_ok hR hΓ hn
                rw [rE_sb] at this
                omega
            rw [this]
            exact ih
          · split
            · rename_i hz
              have z1 := rZe_ok hR hΓ hz.1
              have z2 := rZe_ok hR hΓ hz.2
              rw [rE_sb] at z1 z2
              simp only [rRdP, List.length_cons]
              rw [h1, eG, show rE ρ k = rE ρ d.2.1.2.1 by omega, show rE ρ j = rE ρ d.2.1.2.2.1 by omega]
              exact rUp_at
            · simp only [rRdP, List.length_cons]
      · rename_i eG
        have : γ (d :: r).length G (rE ρ k) (rE ρ j) = γ r.length G (rE ρ k) (rE ρ j) := by
          simp only [List.length_cons]
          rw [h1]
          exact rUp_ne (fun q => eG q.1.symm)
        rw [this]
        exact ih
    · rename_i e
      rw [if_neg e] at h1
      split
      · simp only [rRdP, List.length_cons]
      · rename_i hm
        have : γ (d :: r).length G (rE ρ k) (rE ρ j) = γ r.length G (rE ρ k) (rE ρ j) := by
          simp only [List.length_cons]
          exact h1.1 G _ _ (rMd_ok (by simpa using hm))
        rw [this]
        exact ih
theorem rCh_drop {T : List rIT} {ρ : Nat → Int} {γ : Nat → rHp} : ∀ {i : Nat} {ch : List rD}, rCh T ρ γ ch → rCh T ρ γ (ch.drop i)
  | 0, _, h => h
  | _ + 1, [], h => h
  | i + 1, _ :: r, h => rCh_drop (i := i) h.2
noncomputable def rLk (n G : Nat) (k j : rX) (M : List rMm) : Option rX := @List.rec rMm (fun _ => Option rX) none (fun q _ ih => rCo (rCo (Nat.beq q.1 n) (rCo (Nat.beq q.2.1 G) (rCo (rXq q.2.2.2.1 j) (rXq q.2.2.1 k) false) false) false) (some q.2.2.2.2) ih) M
theorem rLk_ok {n G : Nat} {k j v : rX} : ∀ {M : List rMm}, rLk n G k j M = some v → (n, G, k, j, v) ∈ M
  | [], h => by cases h
  | q :: r, h => by
    have h : rCo (rCo (Nat.beq q.1 n) (rCo (Nat.beq q.2.1 G) (rCo (rXq q.2.2.2.1 j) (rXq q.2.2.1 k) false) false) false) (some q.2.2.2.2) (rLk n G k j r) = some v := h
    rw [rct] at h
    split at h
    · rename_i e
      cases h
      obtain ⟨e1, e⟩ := rcn.mp e
      obtain ⟨e2, e⟩ := rcn.mp e
      obtain ⟨e4, e3⟩ := rcn.mp e
      rw [← Nat.eq_of_beq_eq_true e1, ← Nat.eq_of_beq_eq_true e2, ← rXq_ok e3, ← rXq_ok e4]
      exact List.mem_cons_self
    · exact List.mem_cons_of_mem _ (rLk_ok h)
noncomputable def rZq (R : aRg) (Γ : List rX) (x y : rX) : Bool := @List.rec (Nat × Int) (fun _ => Bool) (@List.rec (Nat × Int) (fun _ => Bool) (rIq x.2 y.2) (fun _ _ _ => rZe R Γ 6 (rSb x y)) y.1) (fun _ _ _ => rZe R Γ 6 (rSb x y)) x.1
theorem rZq_ok {R : aRg} {Γ : List rX} {ρ : Nat → Int} (hR : aOkR R ρ) (hΓ : rFa ρ Γ) {x y : rX} (h : rZq R Γ x y = true) : rE ρ x = rE ρ y := by
  have main : rZe R Γ 6 (rSb x y) = true → rE ρ x = rE ρ y := fun h => by
    have := rZe_ok hR hΓ h
    rw [rE_sb] at this
    omega
  unfold rZq at h
  cases hx : x.1 with
  | cons q r => rw [hx] at h; exact main h
  | nil =>
    rw [hx] at h
    cases hy : y.1 with
    | cons q r => rw [hy] at h; exact main h
    | nil =>
      rw [hy] at h
      have h : rIq x.2 y.2 = true := h
      unfold rE
      rw [hx, hy, rIq_ok h]
/-- what the place held, where cell and place are the same by the facts -/
noncomputable def rLq (R : aRg) (Γ : List rX) (n G : Nat) (k j : rX) (M : List rMm) : Option rX := @List.rec rMm (fun _ => Option rX) none (fun q _ ih => rCo (rCo (Nat.beq q.1 n) (rCo (Nat.beq q.2.1 G) (rCo (rZq R Γ j q.2.2.2.1) (rZq R Γ k q.2.2.1) false) false) false) (some q.2.2.2.2) ih) M
theorem rLq_ok {R : aRg} {Γ : List rX} {ρ : Nat → Int} {γ : Nat → rHp} {n G : Nat} {k j v : rX} (hR : aOkR R ρ) (hΓ : rFa ρ Γ) : ∀ {M : List rMm}, rMo ρ γ M → rLq R Γ n G k j M = some v → γ n G (rE ρ k) (rE ρ j) = rE ρ v
  | [], _, h => by cases h
  | q :: r, hM, h => by
    have h : rCo (rCo (Nat.beq q.1 n) (rCo (Nat.beq q.2.1 G) (rCo (rZq R Γ j q.2.2.2.1) (rZq R Γ k q.2.2.1) false) false) false) (some q.2.2.2.2) (rLq R Γ n G k j r) = some v := h
    rw [rct] at h
    split at h
    · rename_i e
      cases h
      obtain ⟨e1, e⟩ := rcn.mp e
      obtain ⟨e2, e⟩ := rcn.mp e
      obtain ⟨e4, e3⟩ := rcn.mp e
      have z1 := rZq_ok hR hΓ e3
      have z2 := rZq_ok hR hΓ e4
      have := hM q List.mem_cons_self
      rw [Nat.eq_of_beq_eq_true e1, Nat.eq_of_beq_eq_true e2] at this
      rw [z1, z2]
      exact this
    · exact rLq_ok hR hΓ (fun z hz => hM z (List.mem_cons_of_mem _ hz)) h
/-- the range of a group's place -/
noncomputable def rRn (W : List rGr) (G : Nat) (j : rX) : Option (Int × Int) := match W[G]? with
  | some q => if q.1 < 1000 then (if j.1.isEmpty = true then some ((rTy q j.2.toNat).2.1, (rTy q j.2.toNat).2.2.1) else none) else some ((rTy q 0).2.1, (rTy q 0).2.2.1)
  | none => none
theorem rRn_ok {W : List rGr} {G : Nat} {j : rX} {ρ : Nat → Int} {g : rHp} {k lo hi : Int} (hg : rRg W g) (h : rRn W G j = some (lo, hi)) : lo ≤ g G k (rE ρ j) ∧ g G k (rE ρ j) ≤ hi := by
  unfold rRn at h
  split at h
  · rename_i q hq
    have h1 := hg G q hq k (rE ρ j)
    split at h
    · rename_i hc
      split at h
      · rename_i hj
        have e : rE ρ j = j.2 := by
          unfold rE
          rw [List.isEmpty_iff.mp hj]
          simp [rSm]
        rw [e] at h1 ⊢
        cases h
        exact h1
      · cases h
    · rename_i hc
      have e : ∀ n : Nat, rTy q n = rTy q 0 := fun n => by simp only [rTy, if_neg hc]
      rw [e] at h1
      cases h
      exact h1
  · cases h
/-- the value of a place at the version that stands behind i of the newest; the lines of ex stay what they were -/
noncomputable def rGt (W : List rGr) (R : aRg) (Γ : List rX) (ch : List rD) (M : List rMm) (ex : List rX) (i G : Nat) (k j : rX) : Option (rX × aRg × List rMm) := match rRd R Γ G k j (ch.drop i) with
  | .inr v => some (v, R, M)
  | .inl n => (match rLk n G k j M with
    | some v => some (v, R, M)
    | none => (match rLq R Γ n G k j M, rRn W G j with
      | some v, _ => some (v, R, M)
      | none, some r => if rWk R Γ ch M = true ∧ rWx R.length k = true ∧ rWx R.length j = true ∧ rAa (rWx R.length) ex = true ∧ n ≤ ch.length then some (rSy R.length, R ++ [r], M ++ [(n, G, k, j, rSy R.length)]) else none
      | none, none => none))
theorem rGt_ok {W : List rGr} {T : List rIT} {i0 : List Nat} {ρ : Nat → Int} {γ : Nat → rHp} {R R_q : aRg} {Γ : List rX} {ch : List rD} {M M_q : List rMm} {ex : List rX} {i G : Nat} {k j v : rX} (h : rK W T i0 ρ γ R Γ ch M) (h1 : rGt W R Γ ch M ex i G k j = some (v, R_q, M_q)) :
    ∃ ρ_q, (∀ n, n < R.length → ρ_q n = ρ n) ∧ R.length ≤ R_q.length ∧ rK W T i0 ρ_q γ R_q Γ ch M_q ∧ γ (ch.drop i).length G (rE ρ k) (rE ρ j) = rE ρ_q v ∧ (∀ x ∈ ex, rE ρ_q x = rE ρ x) := by
  have hr := rRd_ok (G := G) (k := k) (j := j) h.1 h.2.1 (rCh_drop (i := i) h.2.2.1)
  unfold rGt at h1
  split at h1
  · rename_i w hw
    cases h1
    rw [hw] at hr
    exact ⟨ρ, fun _ _ => rfl, Nat.le_refl _, h, hr, fun _ _ => rfl⟩
  · rename_i n hn
    rw [hn] at hr
    simp only [rRdP] at hr
    split at h1
    · rename_i w hw
      cases h1
      exact ⟨ρ, fun _ _ => rfl, Nat.le_refl _, h, hr.trans (h.2.2.2.1 _ (rLk_ok hw)), fun _ _ => rfl⟩
    · split at h1
      · rename_i w _ hw
        cases h1
        exact ⟨ρ, fun _ _ => rfl, Nat.le_refl _, h, hr.trans (rLq_ok h.1 h.2.1 h.2.2.2.1 hw), fun _ _ => rfl⟩
      · rename_i r _ hrn
        split at h1
        · rename_i hc
          obtain ⟨c1, c2, c3, c4, c5⟩ := hc
          cases h1
          have hs : ∀ q, q < R.length → aUp ρ R.length (γ n G (rE ρ k) (rE ρ j)) q = ρ q := fun q hq => aUp_ne _ _ (by omega)
          have hb := rRn_ok (k := rE ρ k) (ρ := ρ) (h.2.2.2.2.1 n c5) hrn
          have hk := rK_new h c1 hb.1 hb.2
          have e : rE (aUp ρ R.length (γ n G (rE ρ k) (rE ρ j))) (rSy R.length) = γ n G (rE ρ k) (rE ρ j) := by rw [rE_sy, aUp_self]
          refine ⟨aUp ρ R.length (γ n G (rE ρ k) (rE ρ j)), hs, by simp, ⟨hk.1, hk.2.1, hk.2.2.1, ?_, hk.2.2.2.2⟩, by rw [e]; exact hr, fun x hx => rE_same hs (List.all_eq_true.mp (rAa_eq.symm.trans c4) x hx)⟩
          intro q hq
          rcases List.mem_append.mp hq with hq | hq
          · exact hk.2.2.2.1 q hq
          · rw [List.mem_singleton] at hq
            subst hq
            dsimp only
            rw [e, rE_same hs c2, rE_same hs c3]
        · cases h1
      · cases h1
