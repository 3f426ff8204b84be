/-! ===== steps on fields and arrays ===== -/
section XW
variable {W : List rGr} {T : List rIT} {B : Nat} {A : rA} {b : aSc} {i0 : List Nat} {ρ : Nat → Int} {γ : Nat → rHp} {σ : rS} {lv : List (Nat × Value)} {st : List Value} {h : xH}
/-- a place's value is pushed -/
noncomputable def rRdV (W : List rGr) (σ : rS) (S : List rV) (G : Nat) (k j : rX) (t : rT) : Option rS :=
  if (t.1 = 0 ∨ t.1 = 1) ∧ t.2.1 = t.2.2.1 then some (rWS σ ((t.1, 0, rC t.2.1) :: S)) else
  if t.1 = 0 ∨ t.1 = 1 ∨ t.1 = 3 then
    (match rGt W σ.1 σ.2.1 σ.2.2.2.2.1 σ.2.2.2.2.2.1 (rLs σ.2.2.1 S) 0 G k j with
    | some z => if t.1 = 3 then (match W[t.2.2.2.1]? with
        | some g => if 0 ≤ t.2.1 ∧ t.2.2.1 < g.2.2.1 then some (z.2.1, σ.2.1, σ.2.2.1, (2, t.2.2.2.1, z.1) :: S, σ.2.2.2.2.1, z.2.2, σ.2.2.2.2.2.2) else none
        | none => none) else some (z.2.1, σ.2.1, σ.2.2.1, (t.1, 0, z.1) :: S, σ.2.2.2.2.1, z.2.2, σ.2.2.2.2.2.2)
    | none => none)
  else if t.1 = 2 then (match W[t.2.2.2.1]? with
    | some g => if rPv σ.1 σ.2.1 1 (rPl (rAd (rMu t.2.2.2.2.1 k) (rMu t.2.2.2.2.2.2 j)) t.2.2.2.2.2.1) = true ∧ rPv σ.1 σ.2.1 1 (rPl (rMu (-1) (rPl (rAd (rMu t.2.2.2.2.1 k) (rMu t.2.2.2.2.2.2 j)) t.2.2.2.2.2.1)) (g.2.2.1 - 1)) = true then
        some (rWS σ ((2, t.2.2.2.1, rPl (rAd (rMu t.2.2.2.2.1 k) (rMu t.2.2.2.2.2.2 j)) t.2.2.2.2.2.1) :: S)) else none
    | none => none)
  else none
theorem rRdV_ok {S : List rV} {G : Nat} {k j : rX} {g : rGr} {n : Nat} {x : Value} {σ_q : rS} (hA : rSt W T B A b i0 ρ γ (rWS σ S) lv st h) (hG : W[G]? = some g) (hj : rE ρ j = (n : Int)) (hx : rEn A (rTy g n) (rE ρ k) (n : Int) (γ σ.2.2.2.2.1.length G (rE ρ k) (n : Int)) x) (h1 : rRdV W σ S G k j (rTy g n) = some σ_q) :
    ∃ ρ_q, rSm0 σ ρ ρ_q γ γ ∧ rSt W T B A b i0 ρ_q γ σ_q lv (x :: st) h ∧ σ_q.2.2.2.2.2.2 = σ.2.2.2.2.2.2 := by
  unfold rRdV at h1
  split at h1
  · rename_i ht
    cases h1
    have hrg := hA.1.2.2.2.2.1 σ.2.2.2.2.1.length (Nat.le_refl _) G g hG (rE ρ k) (n : Int)
    rw [Int.toNat_natCast] at hrg
    have e : γ σ.2.2.2.2.1.length G (rE ρ k) (n : Int) = rE ρ (rC (rTy g n).2.1) := by rw [rE_c]; omega
    rw [e] at hx
    refine ⟨ρ, rSm0_rf, ⟨hA.1, hA.2.1, ⟨?_, hA.2.2.1⟩, hA.2.2.2⟩, rfl⟩
    unfold rEn at hx
    rcases ht.1 with ht | ht
    · rw [ht] at hx ⊢
      exact hx
    · rw [ht] at hx ⊢
      exact hx
  split at h1
  · rename_i ht
    split at h1
    · rename_i z hz
      obtain ⟨v, R_q, M_q⟩ := z
      obtain ⟨ρ_q, a1, a2, a3, a4, a5⟩ := rGt_ok hA.1 hz
      obtain ⟨l1, l2⟩ := rLs_loc (W := W) (A := A) (b := b) (lv := lv) (st := st) a5 hA.2.1 hA.2.2.1
      simp only [List.drop_zero] at a4
      rw [hj] at a4
      have a4 : γ σ.2.2.2.2.1.length G (rE ρ k) (n : Int) = rE ρ_q v := a4
      rw [a4] at hx
      have hrg := hA.1.2.2.2.2.1 σ.2.2.2.2.1.length (Nat.le_refl _) G g hG (rE ρ k) (n : Int)
      rw [a4, Int.toNat_natCast] at hrg
      split at h1
      · rename_i h3
        split at h1
        · rename_i g2 hg2
          split at h1
          · rename_i hc
            cases h1
            refine ⟨ρ_q, ⟨a1, fun _ _ => rfl⟩, ⟨a3, l1, ⟨?_, l2⟩, hA.2.2.2⟩, rfl⟩
            unfold rEn at hx
            rw [h3] at hx
            exact ⟨hx, g2, hg2, by show 0 ≤ rE ρ_q v; omega, by show rE ρ_q v < _; omega⟩
          · cases h1
        · cases h1
      · rename_i h3
        cases h1
        refine ⟨ρ_q, ⟨a1, fun _ _ => rfl⟩, ⟨a3, l1, ⟨?_, l2⟩, hA.2.2.2⟩, rfl⟩
        rcases ht with ht | ht | ht
        · unfold rEn at hx
          rw [ht] at hx ⊢
          exact hx
        · unfold rEn at hx
          rw [ht] at hx ⊢
          exact hx
        · exact absurd ht h3
    · cases h1
  · split at h1
    · rename_i ht
      split at h1
      · rename_i g2 hg2
        split at h1
        · rename_i hc
          cases h1
          have c1 := rPv_ok hA.1.1 hA.1.2.1 hc.1
          have c2 := rPv_ok hA.1.1 hA.1.2.1 hc.2
          rw [rE_pl, rE_mu] at c2
          refine ⟨ρ, rSm0_rf, ⟨hA.1, hA.2.1, ⟨?_, hA.2.2.1⟩, hA.2.2.2⟩, rfl⟩
          have e : rE ρ (rPl (rAd (rMu (rTy g n).2.2.2.2.1 k) (rMu (rTy g n).2.2.2.2.2.2 j)) (rTy g n).2.2.2.2.2.1) = (rTy g n).2.2.2.2.1 * rE ρ k + (rTy g n).2.2.2.2.2.1 + (rTy g n).2.2.2.2.2.2 * (n : Int) := by
            rw [rE_pl, rE_ad, rE_mu, rE_mu, hj]
            omega
          unfold rEn at hx
          rw [ht] at hx
          refine ⟨?_, g2, hg2, c1, by dsimp only; omega⟩
          show x = .ref (A _ (rE ρ (rPl _ _)))
          rw [e]
          exact hx
        · cases h1
      · cases h1
    · cases h1
/-- may the value be written where the type is t -/
noncomputable def rStV (R : aRg) (Γ : List rX) (t : rT) (v : rV) : Bool := (Nat.beq v.1 t.1 && Nat.blt t.1 2 || Nat.beq v.1 2 && Nat.beq t.1 3 && Nat.beq v.2.1 t.2.2.2.1) && rPv R Γ 2 (rPl v.2.2 (-t.2.1)) && rPv R Γ 2 (rPl (rMu (-1) v.2.2) t.2.2.1)
noncomputable def rWr (σ : rS) (S : List rV) (G : Nat) (k j v : rX) : rS := (σ.1, σ.2.1, σ.2.2.1, S, (0, (G, k, j, v), 0, []) :: σ.2.2.2.2.1, σ.2.2.2.2.2)
theorem rCh_up {γ_q : Nat → rHp} : ∀ {ch : List rD}, (∀ n, n ≤ ch.length → γ_q n = γ n) → rCh T ρ γ ch → rCh T ρ γ_q ch
  | [], _, _ => trivial
  | d :: r, hg, h => by
    refine ⟨?_, rCh_up (fun n hn => hg n (by simp; omega)) h.2⟩
    rw [hg r.length (by simp), hg (r.length + 1) (by simp)]
    exact h.1
/-- a place is written -/
theorem rWr_ok {S : List rV} {G : Nat} {k j : rX} {v : rV} {g : rGr} {n : Nat} {x : Value} {V : Nat → Value} (hI : rInj W A) (hA : rSt W T B A b i0 ρ γ (rWS σ S) lv st h) (hG : W[G]? = some g) (hk : 0 ≤ rE ρ k ∧ rE ρ k < g.2.2.1) (hj : rE ρ j = (n : Int)) (hn : n < g.2.1) (hM : σ.2.2.2.2.2.1.all (fun q => Nat.ble q.1 σ.2.2.2.2.1.length) = true) (hv : rMv W A ρ b v x) (ht : rStV σ.1 σ.2.1 (rTy g n) v = true) (hV : h (A G (rE ρ k)) = some (g.1, g.2.1, V)) (hVj : ∀ j : Nat, j < g.2.1 → rEn A (rTy g j) (rE ρ k) j (γ σ.2.2.2.2.1.length G (rE ρ k) j) (V j)) :
    ∃ γ_q, rSm0 σ ρ ρ γ γ_q ∧ rSt W T B A b i0 ρ γ_q (rWr σ S G k j v.2.2) lv st (xput h (A G (rE ρ k)) (g.1, g.2.1, updV V n x)) := by
  simp only [rStV, Bool.and_eq_true, Bool.or_eq_true] at ht
  obtain ⟨⟨t1, t2⟩, t3⟩ := ht
  have t2 := rPv_ok hA.1.1 hA.1.2.1 t2
  have t3 := rPv_ok hA.1.1 hA.1.2.1 t3
  rw [rE_pl] at t2 t3
  rw [rE_mu] at t3
  have hs : ∀ q, q ≤ σ.2.2.2.2.1.length → aUp γ (σ.2.2.2.2.1.length + 1) (rUp (γ σ.2.2.2.2.1.length) G (rE ρ k) (rE ρ j) (rE ρ v.2.2)) q = γ q := fun q hq => aUp_ne _ _ (by omega)
  refine ⟨aUp γ (σ.2.2.2.2.1.length + 1) (rUp (γ σ.2.2.2.2.1.length) G (rE ρ k) (rE ρ j) (rE ρ v.2.2)), ⟨fun _ _ => rfl, hs⟩, ⟨hA.1.1, hA.1.2.1, ⟨?_, rCh_up hs hA.1.2.2.1⟩, ?_, ?_, ?_⟩, hA.2.1, hA.2.2.1, ?_⟩
  · unfold rD1
    rw [if_pos rfl]
    show aUp γ _ _ (σ.2.2.2.2.1.length + 1) = rUp (aUp γ _ _ σ.2.2.2.2.1.length) _ _ _ _
    rw [aUp_self, hs _ (Nat.le_refl _)]
  · intro q hq
    have := Nat.le_of_ble_eq_true (List.all_eq_true.mp hM q hq)
    rw [hs _ this]
    exact hA.1.2.2.2.1 q hq
  · intro q hq
    by_cases e : q = σ.2.2.2.2.1.length + 1
    · rw [e, aUp_self]
      intro G_q g_q hG_q k_q j_q
      have h0 := hA.1.2.2.2.2.1 σ.2.2.2.2.1.length (Nat.le_refl _) G_q g_q hG_q k_q j_q
      unfold rUp
      split
      · rename_i e2
        obtain ⟨rfl, -, e4⟩ := e2
        cases hG.symm.trans hG_q
        rw [e4, hj, Int.toNat_natCast]
        omega
      · exact h0
    · rw [aUp_ne _ _ e]
      refine hA.1.2.2.2.2.1 q ?_
      have hq2 : q ≤ σ.2.2.2.2.1.length + 1 := hq
      show q ≤ σ.2.2.2.2.1.length
      omega
  · rw [hs _ (Nat.zero_le _)]
    exact hA.1.2.2.2.2.2
  · show rLay W B A (aUp γ _ _ (σ.2.2.2.2.1.length + 1)) _
    rw [aUp_self]
    intro G_q g_q hG_q k_q hk1 hk2
    obtain ⟨l1, V_q, l2, l3⟩ := hA.2.2.2 G_q g_q hG_q k_q hk1 hk2
    refine ⟨l1, ?_⟩
    by_cases e : A G_q k_q = A G (rE ρ k)
    · obtain ⟨rfl, rfl⟩ := hI G_q G g_q g k_q (rE ρ k) hG_q hG hk1 hk2 hk.1 hk.2 e
      cases hG.symm.trans hG_q
      refine ⟨updV V n x, by simp [xput], fun j_q hj_q => ?_⟩
      by_cases e2 : j_q = n
      · subst e2
        rw [hj, rUp_at]
        have : updV V j_q x j_q = x := by simp [updV]
        rw [this]
        rcases t1 with t1 | t1
        · have e3 := Nat.eq_of_beq_eq_true t1.1
          have e4 := (Nat.blt_eq).mp t1.2
          unfold rEn
          rcases (show (rTy g j_q).1 = 0 ∨ (rTy g j_q).1 = 1 by omega) with e5 | e5
          · rw [e5]
            exact rMv_int hv (e3.trans e5)
          · rw [e5]
            exact rMv_lng hv (e3.trans e5)
        · have e3 := Nat.eq_of_beq_eq_true t1.1.1
          have e4 := Nat.eq_of_beq_eq_true t1.1.2
          have e5 := Nat.eq_of_beq_eq_true t1.2
          unfold rEn
          rw [e4]
          have := (rMv_ref hv e3).1
          rw [e5] at this
          exact this
      · rw [rUp_ne (by rintro ⟨-, -, e3⟩; rw [hj] at e3; omega)]
        have : updV V n x j_q = V j_q := by simp [updV, e2]
        rw [this]
        exact hVj j_q hj_q
    · refine ⟨V_q, by simp only [xput]; rw [if_neg e]; exact l2, fun j_q hj_q => ?_⟩
      rw [rUp_ne (by rintro ⟨rfl, rfl, -⟩; exact e rfl)]
      exact l3 j_q hj_q
end XW
/-- as the elder checker's value, in ranges of its own -/
noncomputable def rPz (v : rV) : aV := if v.1 < 2 then rPa v.1 1 v.2.2 else if v.1 = 3 then (3, 0, 0) else (8, 0, 0)
theorem rPz_ok {W : List rGr} {A : rA} {ρ : Nat → Int} {b : aSc} {v : rV} {x : Value} (h : rMv W A ρ b v x) : aM (rPw ρ v.2.2 v.2.2) (fun _ => none) (fun _ => none) b (rPz v) x := by
  unfold rPz
  split
  · rename_i ht
    exact rPa_ok (x := v.2.2) (y := v.2.2) ht h (by simp [rPw])
  · rename_i ht
    unfold rMv at h
    split at h
    · rename_i e; rw [e] at ht; exact absurd (by decide) ht
    · rename_i e; rw [e] at ht; exact absurd (by decide) ht
    · rename_i e; rw [e, if_neg (by decide)]; exact ⟨_, h.1⟩
    · rename_i e; rw [e, if_pos rfl]; exact h
    · rename_i e; rw [e, if_neg (by decide)]; exact ⟨_, h.1⟩
    · rename_i e; rw [e, if_neg (by decide)]; exact h
    · exact h.elim
noncomputable def rTk (R : aRg) (k : Nat) (v : rV) : Bool := aTok (rPr R v.2.2 v.2.2) k (rPz v)
noncomputable def rsK (M : aTb) (σ : rS) (i : Instr) (len pc : Nat) : Option (List (Nat × rS)) := match i with
    | .ldc ix => (match rF1 M.2.2.2.2.2.2.1 ix with | some z => if len = 2 then some [(pc + 2, rWS σ ((0, 0, rC z) :: σ.2.2.2.1))] else none | none => none)
    | .ldc_w ix => (match rF1 M.2.2.2.2.2.2.1 ix with | some z => if len = 3 then some [(pc + 3, rWS σ ((0, 0, rC z) :: σ.2.2.2.1))] else none | none => none)
    | .ldc2_w ix => (match rF1 M.2.2.2.2.2.2.2.1 ix with | some z => if len = 3 then some [(pc + 3, rWS σ ((1, 0, rC z) :: σ.2.2.2.1))] else none | none => none)
    | _ => none
noncomputable def rsG (W : List rGr) (M : aTb) (σ : rS) (i : Instr) (len pc : Nat) : Option (List (Nat × rS)) := match i with
  | .getfield idx => (match rF1 M.1 idx, σ.2.2.2.1 with
    | some q, r :: S => (match W[r.2.1]? with
      | some g => if len = 3 ∧ r.1 = 2 ∧ g.1 = q.1 ∧ q.2.1 < g.2.1 then (rRdV W σ S r.2.1 r.2.2 (rC (q.2.1 : Int)) (rTy g q.2.1)).map (fun σ_q => [(pc + 3, σ_q)]) else none
      | none => none)
    | _, _ => none)
  | _ => none
noncomputable def rsP (W : List rGr) (M : aTb) (σ : rS) (i : Instr) (len pc : Nat) : Option (List (Nat × rS)) := match i with
  | .putfield idx => (match rF1 M.1 idx, σ.2.2.2.1 with
    | some q, v :: r :: S => (match W[r.2.1]? with
      | some g => if len = 3 ∧ r.1 = 2 ∧ g.1 = q.1 ∧ q.2.1 < g.2.1 ∧ q.2.2 = 0 ∧ rTk σ.1 (aTc M.2.1 q.1 q.2.1) v = true ∧ rStV σ.1 σ.2.1 (rTy g q.2.1) v = true ∧ σ.2.2.2.2.2.1.all (fun q => Nat.ble q.1 σ.2.2.2.2.1.length) = true then some [(pc + 3, rWr σ S r.2.1 r.2.2 (rC (q.2.1 : Int)) v.2.2)] else none
      | none => none)
    | _, _ => none)
  | _ => none
/-- an index is in the array -/
noncomputable def rIx (σ : rS) (ix : rV) (n : Nat) : Bool := Nat.beq ix.1 0 && rPv σ.1 σ.2.1 3 ix.2.2 && rPv σ.1 σ.2.1 3 (rPl (rMu (-1) ix.2.2) ((n : Int) - 1))
noncomputable def rR0 : Nat ⊕ rX → Bool
  | .inl n => Nat.beq n 0
  | .inr _ => false
theorem rR0_ok : ∀ {q : Nat ⊕ rX}, rR0 q = true → q = .inl 0
  | .inl n, h => by rw [Nat.eq_of_beq_eq_true h]
  | .inr _, h => by cases h
/-- the last group is that of the script: it has no cells -/
noncomputable def rSgp (W : List rGr) : Bool := match W[W.length - 1]? with
  | some g => decide (rTy g 0 = (0, -2147483648, 2147483647, 0, 0, 0, 0)) && Nat.ble 1000 g.1
  | none => false
theorem rSgp_ok {W : List rGr} (h : rSgp W = true) : ∃ g, W[W.length - 1]? = some g ∧ ∀ n, rTy g n = (0, -2147483648, 2147483647, 0, 0, 0, 0) := by
  unfold rSgp at h
  split at h
  · rename_i g hg
    simp only [Bool.and_eq_true, decide_eq_true_eq] at h
    have h1 := Nat.le_of_ble_eq_true h.2
    refine ⟨g, hg, fun n => ?_⟩
    rw [← h.1]
    simp only [rTy]
    rw [if_neg (by omega), if_neg (by omega)]
  · cases h
noncomputable def rsA (sc : Bool) (W : List rGr) (σ : rS) (i : Instr) (len pc : Nat) : Option (List (Nat × rS)) := match σ.2.2.2.1 with
  | ix :: r :: S => if len = 1 ∧ aLd i = true then
      (if r.1 = 2 then (match W[r.2.1]? with
        | some g => if aAt i g.1 = true ∧ rIx σ ix g.2.1 = true then (rRdV W σ S r.2.1 r.2.2 ix.2.2 (rTy g 0)).map (fun σ_q => [(pc + 1, σ_q)]) else none
        | none => none)
      else if r.1 = 7 ∧ sc = true then (match i with
        | .iaload => if ix.1 = 0 ∧ rPv σ.1 σ.2.1 2 ix.2.2 = true ∧ rPv σ.1 σ.2.1 2 (rPl (rSb r.2.2 ix.2.2) (-1)) = true ∧ rR0 (rRd σ.1 σ.2.1 (W.length - 1) (rC 0) ix.2.2 σ.2.2.2.2.1) = true ∧ rSgp W = true then (rRdV W σ S (W.length - 1) (rC 0) ix.2.2 (0, -2147483648, 2147483647, 0, 0, 0, 0)).map (fun σ_q => [(pc + 1, σ_q)]) else none
        | _ => none)
      else none) else none
  | _ => none
noncomputable def rsH (sc : Bool) (W : List rGr) (σ : rS) (i : Instr) (len pc : Nat) : Option (List (Nat × rS)) := match i with
  | .arraylength => (match σ.2.2.2.1 with
    | r :: S => if len = 1 then
        (if r.1 = 2 then (match W[r.2.1]? with
          | some g => if 1000 ≤ g.1 ∧ g.2.1 < 2147483648 then some [(pc + 1, rWS σ ((0, 0, rC (g.2.1 : Int)) :: S))] else none
          | none => none)
        else if r.1 = 7 ∧ sc = true then some [(pc + 1, rWS σ ((0, 0, r.2.2) :: S))] else none) else none
    | [] => none)
  | _ => none
noncomputable def rsT (W : List rGr) (σ : rS) (i : Instr) (len pc : Nat) : Option (List (Nat × rS)) := match σ.2.2.2.1 with
  | v :: ix :: r :: S => (match W[r.2.1]? with
    | some g => if len = 1 ∧ r.1 = 2 ∧ rIx σ ix g.2.1 = true ∧ rStV σ.1 σ.2.1 (rTy g 0) v = true ∧ σ.2.2.2.2.2.1.all (fun q => Nat.ble q.1 σ.2.2.2.2.1.length) = true then
        (if aSr i = true then (if aAt i g.1 = true ∧ rTk σ.1 (aEt g.1) v = true then some [(pc + 1, rWr σ S r.2.1 r.2.2 ix.2.2 v.2.2)] else none)
        else (match i with
          | .aastore => (match W[v.2.1]? with
            | some g2 => if v.1 = 2 ∧ 2000 ≤ g.1 ∧ g2.1 = g.1 - 2000 then some [(pc + 1, rWr σ S r.2.1 r.2.2 ix.2.2 v.2.2)] else none
            | none => none)
          | _ => none)) else none
    | none => none)
  | _ => none
noncomputable def rOne (σ : rS) (S : List rV) (x : rX) (lo hi : Int) (pc : Nat) (off : Int) : Option (List (Nat × rS)) := match rAsL σ.1 σ.2.1 [rPl x (-lo), rPl (rMu (-1) x) hi] with
  | some q => (match aTg pc off with | some tg => some [(tg, rWG σ S q)] | none => none)
  | none => some []
noncomputable def rsX (σ : rS) (i : Instr) (pc : Nat) : Option (List (Nat × rS)) := match i with
  | .tableswitch dflt lo hi offs => (match σ.2.2.2.1 with
    | a :: S => if a.1 = 0 ∧ hi - lo < 64 ∧ (offs.size : Int) = hi - lo + 1 then
        aAll (rOne σ S a.2.2 (-2147483648) (lo - 1) pc dflt :: rOne σ S a.2.2 (hi + 1) 2147483647 pc dflt :: (List.range offs.size).map (fun (j : Nat) => rOne σ S a.2.2 (lo + j) (lo + j) pc (offs.getD j 0))) else none
    | [] => none)
  | _ => none
section XUr
variable {p : Program} {l : Launch} {e : Env} {R0 : Room} {s : State} {m : MethodId} {args : Array Value} {below : List Frame} {meth : Method} {c : Code} {Q : State → Prop} {K9 N9 : Nat}
variable {cc : ByteArray} {nL : Nat} {Ts : List Cond} {own : String} {D : va_G} {dA : Nat → ClassId} {cl : List vw_C} {tA : List (Nat × FieldType)} {tyf : Nat → Nat → FieldType} {B : Nat}
variable {W : List rGr} {T : List rIT} {A : rA} {b : aSc} {i0 : List Nat} {ρ : Nat → Int} {γ : Nat → rHp} {σ : rS} {pc len : Nat} {lv : List (Nat × Value)} {st : List Value} {h : xH} {i : Instr} {l1 : List (Nat × rS)}
variable {M : aTb}
theorem rsK_ok (C : xCx p s m args c cc nL Ts own D dA cl tA tyf B) (hA : rSt W T B A b i0 ρ γ σ lv st h) (hdg : decode cc pc = .ok (i, len)) (hG : aGd own Ts cl tA tyf meth s b M) (hs : rsK M σ i len pc = some l1) (kk : (∀ q ∈ l1, ∀ (ρ_q : Nat → Int) (γ_q : Nat → rHp) (lv_q : List (Nat × Value)) (st_q : List Value) (h_q : xH), rSm0 σ ρ ρ_q γ γ_q → rSt W T B A b i0 ρ_q γ_q q.2 lv_q st_q h_q → xSafe p l e R0 s m args below meth c nL D dA cl tA B Q q.1 lv_q st_q h_q (q.2.2.2.2.2.2.2.1 + K9) (q.2.2.2.2.2.2.2.2 + N9))) : xSafe p l e R0 s m args below meth c nL D dA cl tA B Q pc lv st h (σ.2.2.2.2.2.2.1 + K9) (σ.2.2.2.2.2.2.2 + N9) := by
  unfold rsK at hs
  split at hs
  · split at hs
    · rename_i z hf
      split at hs
      · rename_i hl
        subst hl
        cases hs
        obtain ⟨w, h1, h2⟩ := hG.2.2.2.2.2.1 _ (rF1_mem hf)
        exact xs_ldc C h1 hdg (kk _ List.mem_cons_self ρ γ lv (.int w :: st) h rSm0_rf ⟨hA.1, hA.2.1, ⟨⟨w, rfl, by rw [rE_c]; exact h2⟩, hA.2.2.1⟩, hA.2.2.2⟩)
      · cases hs
    · cases hs
  · split at hs
    · rename_i z hf
      split at hs
      · rename_i hl
        subst hl
        cases hs
        obtain ⟨w, h1, h2⟩ := hG.2.2.2.2.2.1 _ (rF1_mem hf)
        exact xs_ldcw C h1 hdg (kk _ List.mem_cons_self ρ γ lv (.int w :: st) h rSm0_rf ⟨hA.1, hA.2.1, ⟨⟨w, rfl, by rw [rE_c]; exact h2⟩, hA.2.2.1⟩, hA.2.2.2⟩)
      · cases hs
    · cases hs
  · split at hs
    · rename_i z hf
      split at hs
      · rename_i hl
        subst hl
        cases hs
        obtain ⟨w, h1, h2⟩ := hG.2.2.2.2.2.2.1 _ (rF1_mem hf)
        exact xs_ldc2 C h1 hdg (kk _ List.mem_cons_self ρ γ lv (.long w :: st) h rSm0_rf ⟨hA.1, hA.2.1, ⟨⟨w, rfl, by rw [rE_c]; exact h2⟩, hA.2.2.1⟩, hA.2.2.2⟩)
      · cases hs
    · cases hs
  · cases hs
theorem rsG_ok (C : xCx p s m args c cc nL Ts own D dA cl tA tyf B) (hA : rSt W T B A b i0 ρ γ σ lv st h) (hdg : decode cc pc = .ok (i, len)) (hG : aGd own Ts cl tA tyf meth s b M) (hs : rsG W M σ i len pc = some l1) (kk : (∀ q ∈ l1, ∀ (ρ_q : Nat → Int) (γ_q : Nat → rHp) (lv_q : List (Nat × Value)) (st_q : List Value) (h_q : xH), rSm0 σ ρ ρ_q γ γ_q → rSt W T B A b i0 ρ_q γ_q q.2 lv_q st_q h_q → xSafe p l e R0 s m args below meth c nL D dA cl tA B Q q.1 lv_q st_q h_q (q.2.2.2.2.2.2.2.1 + K9) (q.2.2.2.2.2.2.2.2 + N9))) : xSafe p l e R0 s m args below meth c nL D dA cl tA B Q pc lv st h (σ.2.2.2.2.2.2.1 + K9) (σ.2.2.2.2.2.2.2 + N9) := by
  unfold rsG at hs
  split at hs
  · split at hs
    · rename_i q r S hf hS
      split at hs
      · rename_i g hg
        split at hs
        · rename_i hc
          obtain ⟨rfl, c2, c3, c4⟩ := hc
          cases hp : rRdV W σ S r.2.1 r.2.2 (rC (q.2.1 : Int)) (rTy g q.2.1) with
          | none => rw [hp] at hs; cases hs
          | some σ_q =>
            rw [hp] at hs
            cases hs
            have h3 := hA.2.2.1
            rw [hS] at h3
            obtain ⟨x, st_q, rfl, hx, h4⟩ := rStk_cons h3
            obtain ⟨rfl, g_q, e1, e2, e3⟩ := rMv_ref hx c2
            cases hg.symm.trans e1
            obtain ⟨-, V, l2, l3⟩ := hA.2.2.2 r.2.1 g hg _ e2 e3
            have hA2 : rSt W T B A b i0 ρ γ (rWS σ S) lv st_q h := ⟨hA.1, hA.2.1, h4, hA.2.2.2⟩
            obtain ⟨ρ_q, g1, g2, g3⟩ := rRdV_ok hA2 hg rE_c (l3 q.2.1 c4) hp
            obtain ⟨rr, hr, hfl, hw, -, -⟩ := hG.1 _ (rF1_mem hf)
            have := kk _ List.mem_cons_self ρ_q γ lv _ h g1 g2
            rw [g3] at this
            rw [c3] at l2
            exact xs_get C hr hfl hw l2 hdg this
        · cases hs
      · cases hs
    · cases hs
  · cases hs
theorem rsP_ok (C : xCx p s m args c cc nL Ts own D dA cl tA tyf B) (hA : rSt W T B A b i0 ρ γ σ lv st h) (hdg : decode cc pc = .ok (i, len)) (hG : aGd own Ts cl tA tyf meth s b M) (hI : rInj W A) (hs : rsP W M σ i len pc = some l1) (kk : (∀ q ∈ l1, ∀ (ρ_q : Nat → Int) (γ_q : Nat → rHp) (lv_q : List (Nat × Value)) (st_q : List Value) (h_q : xH), rSm0 σ ρ ρ_q γ γ_q → rSt W T B A b i0 ρ_q γ_q q.2 lv_q st_q h_q → xSafe p l e R0 s m args below meth c nL D dA cl tA B Q q.1 lv_q st_q h_q (q.2.2.2.2.2.2.2.1 + K9) (q.2.2.2.2.2.2.2.2 + N9))) : xSafe p l e R0 s m args below meth c nL D dA cl tA B Q pc lv st h (σ.2.2.2.2.2.2.1 + K9) (σ.2.2.2.2.2.2.2 + N9) := by
  unfold rsP at hs
  split at hs
  · split at hs
    · rename_i q v r S hf hS
      split at hs
      · rename_i g hg
        split at hs
        · rename_i hc
          obtain ⟨rfl, c2, c3, c4, c5, c6, c7, c8⟩ := hc
          cases hs
          have h3 := hA.2.2.1
          rw [hS] at h3
          obtain ⟨x, st_q, rfl, hx, h4⟩ := rStk_cons h3
          obtain ⟨y, st_q, rfl, hy, h5⟩ := rStk_cons h4
          obtain ⟨rfl, g_q, e1, e2, e3⟩ := rMv_ref hy c2
          cases hg.symm.trans e1
          obtain ⟨l1, V, l2, l3⟩ := hA.2.2.2 r.2.1 g hg _ e2 e3
          have hA2 : rSt W T B A b i0 ρ γ (rWS σ S) lv st_q h := ⟨hA.1, hA.2.1, h5, hA.2.2.2⟩
          obtain ⟨γ_q, g1, g2⟩ := rWr_ok hI hA2 hg ⟨e2, e3⟩ (rE_c (c := (q.2.1 : Int))) c4 c8 hx c7 l2 l3
          obtain ⟨rr, hr, hfl, hw, hf0, -⟩ := hG.1 _ (rF1_mem hf)
          obtain ⟨hn1, hn2⟩ := aTok_ok (rPr_ok hA.1.1) (rPz_ok hx) (hG.2.1 q.1 q.2.1) c6
          have := kk _ List.mem_cons_self ρ γ_q lv _ _ g1 g2
          rw [c3] at l2 this
          exact xs_put C hr hfl hw l2 l1 hn1 hn2 (Or.inl (hf0 c5)) hdg this
        · cases hs
      · cases hs
    · cases hs
  · cases hs
theorem rIx_ok {ix : rV} {x : Value} {n : Nat} (hA : rSt W T B A b i0 ρ γ σ lv st h) (hx : rMv W A ρ b ix x) (hi : rIx σ ix n = true) : ∃ z : Int32, x = .int z ∧ vp_in z n ∧ z.toNatClampNeg < n ∧ rE ρ ix.2.2 = (z.toNatClampNeg : Int) := by
  simp only [rIx, Bool.and_eq_true] at hi
  obtain ⟨z, rfl, hz⟩ := rMv_int hx (Nat.eq_of_beq_eq_true hi.1.1)
  have h1 := rPv_ok hA.1.1 hA.1.2.1 hi.1.2
  have h2 := rPv_ok hA.1.1 hA.1.2.1 hi.2
  rw [rE_pl, rE_mu] at h2
  have hv : vp_in z n := vp_in_iff.mpr (by omega)
  refine ⟨z, rfl, hv, xin_lt hv, ?_⟩
  unfold Int32.toNatClampNeg
  omega
theorem rsA_ok (C : xCx p s m args c cc nL Ts own D dA cl tA tyf B) (hA : rSt W T B A b i0 ρ γ σ lv st h) (hdg : decode cc pc = .ok (i, len)) (hG : aGd own Ts cl tA tyf meth s b M) (hKt : ∀ g ∈ W, 1000 ≤ g.1 → ∃ ty, (g.1, ty) ∈ tA) {xs : Nat → Int32} {sc : Bool} (hX : sc = true → (va_X b.1 b.2.1 xs s s.heap ∧ b.1 < s.heap.size ∧ ¬ B ≤ b.1) ∧ ∀ j : Nat, j < b.2.1 → γ 0 (W.length - 1) 0 (j : Int) = (xs j).toInt) (hs : rsA sc W σ i len pc = some l1) (kk : (∀ q ∈ l1, ∀ (ρ_q : Nat → Int) (γ_q : Nat → rHp) (lv_q : List (Nat × Value)) (st_q : List Value) (h_q : xH), rSm0 σ ρ ρ_q γ γ_q → rSt W T B A b i0 ρ_q γ_q q.2 lv_q st_q h_q → xSafe p l e R0 s m args below meth c nL D dA cl tA B Q q.1 lv_q st_q h_q (q.2.2.2.2.2.2.2.1 + K9) (q.2.2.2.2.2.2.2.2 + N9))) : xSafe p l e R0 s m args below meth c nL D dA cl tA B Q pc lv st h (σ.2.2.2.2.2.2.1 + K9) (σ.2.2.2.2.2.2.2 + N9) := by
  unfold rsA at hs
  split at hs
  · rename_i ix r S hS
    split at hs
    · rename_i hc0
      obtain ⟨rfl, hld⟩ := hc0
      have h3 := hA.2.2.1
      rw [hS] at h3
      obtain ⟨x, st_q, rfl, hx, h4⟩ := rStk_cons h3
      obtain ⟨y, st_q, rfl, hy, h5⟩ := rStk_cons h4
      have hA2 : rSt W T B A b i0 ρ γ (rWS σ S) lv st_q h := ⟨hA.1, hA.2.1, h5, hA.2.2.2⟩
      split at hs
      · rename_i ht
        split at hs
        · rename_i g hg
          split at hs
          · rename_i hc
            cases hp : rRdV W σ S r.2.1 r.2.2 ix.2.2 (rTy g 0) with
            | none => rw [hp] at hs; cases hs
            | some σ_q =>
              rw [hp] at hs
              cases hs
              obtain ⟨rfl, g_q, e1, e2, e3⟩ := rMv_ref hy ht
              cases hg.symm.trans e1
              obtain ⟨-, V, l2, l3⟩ := hA.2.2.2 r.2.1 g hg _ e2 e3
              obtain ⟨z, rfl, hz, hzn, hzl⟩ := rIx_ok hA hx hc.2
              have hg1 : 1000 ≤ g.1 := by
                have h9 := hc.1
                unfold aAt at h9
                split at h9 <;> first | (simp only [Bool.or_eq_true, decide_eq_true_eq] at h9; omega) | (cases h9)
              have hty : ∀ n : Nat, rTy g n = rTy g 0 := fun n => by simp only [rTy]; rw [if_neg (by omega), if_neg (by omega)]
              have l4 := l3 _ hzn
              rw [← hty z.toNatClampNeg] at hp
              obtain ⟨ρ_q, g1, g2, g3⟩ := rRdV_ok hA2 hg hzl l4 hp
              have := kk _ List.mem_cons_self ρ_q γ lv _ h g1 g2
              rw [g3] at this
              exact aRd C hG hc.1 hld (fun _ => hKt g (List.mem_of_getElem? hg) hg1) l2 hz hdg this
          · cases hs
        · cases hs
      · split at hs
        · rename_i ht
          split at hs
          · split at hs
            · rename_i hc
              obtain ⟨c1, c2, c3, c4, c5⟩ := hc
              cases hp : rRdV W σ S (W.length - 1) (rC 0) ix.2.2 (0, -2147483648, 2147483647, 0, 0, 0, 0) with
              | none => rw [hp] at hs; cases hs
              | some σ_q =>
                rw [hp] at hs
                cases hs
                have hy2 : y = .ref b.1 ∧ rE ρ r.2.2 = (b.2.1 : Int) := by
                  unfold rMv at hy
                  rw [ht.1] at hy
                  exact hy
                obtain ⟨rfl, hy2⟩ := hy2
                obtain ⟨z, rfl, hz⟩ := rMv_int hx c1
                have h1 := rPv_ok hA.1.1 hA.1.2.1 c2
                have h2 := rPv_ok hA.1.1 hA.1.2.1 c3
                rw [rE_pl, rE_sb] at h2
                obtain ⟨⟨x1, x2, x3⟩, x4⟩ := hX ht.2
                have hv : vp_in z b.2.1 := vp_in_iff.mpr (by omega)
                obtain ⟨g, hg, hty⟩ := rSgp_ok c5
                have hn : rE ρ ix.2.2 = (z.toNatClampNeg : Int) := by
                  unfold Int32.toNatClampNeg
                  omega
                have e0 := rRd_ok (G := W.length - 1) (k := rC 0) (j := ix.2.2) hA.1.1 hA.1.2.1 hA.1.2.2.1
                rw [rR0_ok c4] at e0
                simp only [rRdP] at e0
                rw [hn] at e0
                have e1 : γ 0 (W.length - 1) (rE ρ (rC 0)) (z.toNatClampNeg : Int) = (xs z.toNatClampNeg).toInt := by
                  rw [rE_c]
                  exact x4 _ (by omega)
                obtain ⟨ρ_q, g1, g2, g3⟩ := rRdV_ok (x := .int (xs z.toNatClampNeg)) hA2 hg hn (by rw [hty]; exact ⟨_, rfl, (e0.trans e1).symm⟩) (by rw [hty]; exact hp)
                have := kk _ List.mem_cons_self ρ_q γ lv _ h g1 g2
                rw [g3] at this
                exact xs_sld C x1 x2 x3 hv hdg this
            · cases hs
          · cases hs
        · cases hs
    · cases hs
  · cases hs
theorem rsH_ok (C : xCx p s m args c cc nL Ts own D dA cl tA tyf B) (hA : rSt W T B A b i0 ρ γ σ lv st h) (hdg : decode cc pc = .ok (i, len)) (hG : aGd own Ts cl tA tyf meth s b M) {xs : Nat → Int32} {sc : Bool} (hX : sc = true → va_X b.1 b.2.1 xs s s.heap ∧ b.1 < s.heap.size ∧ ¬ B ≤ b.1) (hs : rsH sc W σ i len pc = some l1) (kk : (∀ q ∈ l1, ∀ (ρ_q : Nat → Int) (γ_q : Nat → rHp) (lv_q : List (Nat × Value)) (st_q : List Value) (h_q : xH), rSm0 σ ρ ρ_q γ γ_q → rSt W T B A b i0 ρ_q γ_q q.2 lv_q st_q h_q → xSafe p l e R0 s m args below meth c nL D dA cl tA B Q q.1 lv_q st_q h_q (q.2.2.2.2.2.2.2.1 + K9) (q.2.2.2.2.2.2.2.2 + N9))) : xSafe p l e R0 s m args below meth c nL D dA cl tA B Q pc lv st h (σ.2.2.2.2.2.2.1 + K9) (σ.2.2.2.2.2.2.2 + N9) := by
  have ofN : ∀ n : Nat, n < 2147483648 → (Int32.ofNat n).toInt = (n : Int) := fun n hn => Int32.toInt_ofNat_of_lt (by omega)
  unfold rsH at hs
  split at hs
  · split at hs
    · rename_i r S hS
      split at hs
      · rename_i hl
        subst hl
        have h3 := hA.2.2.1
        rw [hS] at h3
        obtain ⟨y, st_q, rfl, hy, h4⟩ := rStk_cons h3
        split at hs
        · rename_i ht
          split at hs
          · rename_i g hg
            split at hs
            · rename_i hc
              cases hs
              obtain ⟨rfl, g_q, e1, e2, e3⟩ := rMv_ref hy ht
              cases hg.symm.trans e1
              obtain ⟨-, V, l2, -⟩ := hA.2.2.2 r.2.1 g hg _ e2 e3
              exact xs_alen C hc.1 l2 hdg (kk _ List.mem_cons_self ρ γ lv _ h rSm0_rf ⟨hA.1, hA.2.1, ⟨⟨_, rfl, by rw [rE_c]; exact ofN _ hc.2⟩, h4⟩, hA.2.2.2⟩)
            · cases hs
          · cases hs
        · split at hs
          · rename_i ht
            cases hs
            have hy2 : y = .ref b.1 ∧ rE ρ r.2.2 = (b.2.1 : Int) := by
              unfold rMv at hy
              rw [ht.1] at hy
              exact hy
            obtain ⟨rfl, hy2⟩ := hy2
            obtain ⟨x1, x2, x3⟩ := hX ht.2
            exact xs_slen C x1 x2 x3 hdg (kk _ List.mem_cons_self ρ γ lv _ h rSm0_rf ⟨hA.1, hA.2.1, ⟨⟨_, rfl, by rw [ofN _ hG.2.2.2.2.2.2.2.2]; exact hy2.symm⟩, h4⟩, hA.2.2.2⟩)
          · cases hs
      · cases hs
    · cases hs
  · cases hs
theorem rsT_ok (C : xCx p s m args c cc nL Ts own D dA cl tA tyf B) (hA : rSt W T B A b i0 ρ γ σ lv st h) (hdg : decode cc pc = .ok (i, len)) (hG : aGd own Ts cl tA tyf meth s b M) (hKt : ∀ g ∈ W, 1000 ≤ g.1 → ∃ ty, (g.1, ty) ∈ tA) (hI : rInj W A) (hs : rsT W σ i len pc = some l1) (kk : (∀ q ∈ l1, ∀ (ρ_q : Nat → Int) (γ_q : Nat → rHp) (lv_q : List (Nat × Value)) (st_q : List Value) (h_q : xH), rSm0 σ ρ ρ_q γ γ_q → rSt W T B A b i0 ρ_q γ_q q.2 lv_q st_q h_q → xSafe p l e R0 s m args below meth c nL D dA cl tA B Q q.1 lv_q st_q h_q (q.2.2.2.2.2.2.2.1 + K9) (q.2.2.2.2.2.2.2.2 + N9))) : xSafe p l e R0 s m args below meth c nL D dA cl tA B Q pc lv st h (σ.2.2.2.2.2.2.1 + K9) (σ.2.2.2.2.2.2.2 + N9) := by
  unfold rsT at hs
  split at hs
  · rename_i v ix r S hS
    split at hs
    · rename_i g hg
      split at hs
      · rename_i hc0
        obtain ⟨rfl, c2, c3, c4, c5⟩ := hc0
        have h3 := hA.2.2.1
        rw [hS] at h3
        obtain ⟨x, st_q, rfl, hx, h4⟩ := rStk_cons h3
        obtain ⟨w, st_q, rfl, hw, h5⟩ := rStk_cons h4
        obtain ⟨y, st_q, rfl, hy, h6⟩ := rStk_cons h5
        have hA2 : rSt W T B A b i0 ρ γ (rWS σ S) lv st_q h := ⟨hA.1, hA.2.1, h6, hA.2.2.2⟩
        obtain ⟨rfl, g_q, e1, e2, e3⟩ := rMv_ref hy c2
        cases hg.symm.trans e1
        obtain ⟨l1, V, l2, l3⟩ := hA.2.2.2 r.2.1 g hg _ e2 e3
        obtain ⟨z, rfl, hz, hzn, hzl⟩ := rIx_ok hA hw c3
        have main : 1000 ≤ g.1 → ∃ γ_q, rSm0 σ ρ ρ γ γ_q ∧ rSt W T B A b i0 ρ γ_q (rWr σ S r.2.1 r.2.2 ix.2.2 v.2.2) lv st_q (xput h (A r.2.1 (rE ρ r.2.2)) (g.1, g.2.1, updV V z.toNatClampNeg x)) := fun hg1 => by
          have hty : rTy g z.toNatClampNeg = rTy g 0 := by simp only [rTy]; rw [if_neg (by omega), if_neg (by omega)]
          exact rWr_ok hI hA2 hg ⟨e2, e3⟩ hzl hzn c5 hx (by rw [hty]; exact c4) l2 l3
        split at hs
        · rename_i hsr
          split at hs
          · rename_i hc
            cases hs
            have hg1 : 1000 ≤ g.1 := by
              have h9 := hc.1
              unfold aAt at h9
              split at h9 <;> first | (simp only [Bool.or_eq_true, decide_eq_true_eq] at h9; omega) | (cases h9)
            obtain ⟨γ_q, g1, g2⟩ := main hg1
            exact aWr C hG (σ := (rPr σ.1 v.2.2 v.2.2, 0, [], [], [], 0, 0)) (rPr_ok hA.1.1) (rPz_ok hx) hc.1 hsr hc.2 l2 l1 hz hdg (kk _ List.mem_cons_self ρ γ_q lv _ _ g1 g2)
          · cases hs
        · split at hs
          · split at hs
            · rename_i g2 hg2
              split at hs
              · rename_i hc
                cases hs
                obtain ⟨rfl, g3, f1, f2, f3⟩ := rMv_ref hx hc.1
                cases hg2.symm.trans f1
                obtain ⟨-, V2, m2, -⟩ := hA.2.2.2 v.2.1 g2 hg2 _ f2 f3
                obtain ⟨ty, hty⟩ := hKt g (List.mem_of_getElem? hg) (by omega)
                obtain ⟨rr, hrr, rfl⟩ := hG.2.2.2.2.1.2.2.2.2.2 _ _ hty hc.2.1
                obtain ⟨γ_q, g1, g2_q⟩ := main (by omega)
                rw [hc.2.2] at m2
                exact xs_aast C hrr hty l2 l1 m2 hz hdg (kk _ List.mem_cons_self ρ γ_q lv _ _ g1 g2_q)
              · cases hs
            · cases hs
          · cases hs
      · cases hs
    · cases hs
  · cases hs
theorem rsX_ok (C : xCx p s m args c cc nL Ts own D dA cl tA tyf B) (hA : rSt W T B A b i0 ρ γ σ lv st h) (hdg : decode cc pc = .ok (i, len)) (hs : rsX σ i pc = some l1) (kk : (∀ q ∈ l1, ∀ (ρ_q : Nat → Int) (γ_q : Nat → rHp) (lv_q : List (Nat × Value)) (st_q : List Value) (h_q : xH), rSm0 σ ρ ρ_q γ γ_q → rSt W T B A b i0 ρ_q γ_q q.2 lv_q st_q h_q → xSafe p l e R0 s m args below meth c nL D dA cl tA B Q q.1 lv_q st_q h_q (q.2.2.2.2.2.2.2.1 + K9) (q.2.2.2.2.2.2.2.2 + N9))) : xSafe p l e R0 s m args below meth c nL D dA cl tA B Q pc lv st h (σ.2.2.2.2.2.2.1 + K9) (σ.2.2.2.2.2.2.2 + N9) := by
  unfold rsX at hs
  split at hs
  · rename_i dflt lo hi offs
    split at hs
    · rename_i a S hS
      split at hs
      · rename_i hc
        obtain ⟨hc1, hc2, hc3⟩ := hc
        have h3 := hA.2.2.1
        rw [hS] at h3
        obtain ⟨x, st_q, rfl, hx, h4⟩ := rStk_cons h3
        obtain ⟨z, rfl, hz⟩ := rMv_int hx hc1
        have hall := aAll_in hs
        have hzb := aI32 z
        have one : ∀ (lo1 hi1 off : Int), rOne σ S a.2.2 lo1 hi1 pc off ∈ rOne σ S a.2.2 (-2147483648) (lo - 1) pc dflt :: rOne σ S a.2.2 (hi + 1) 2147483647 pc dflt :: (List.range offs.size).map (fun (j : Nat) => rOne σ S a.2.2 (lo + j) (lo + j) pc (offs.getD j 0)) → lo1 ≤ z.toInt → z.toInt ≤ hi1 → ∃ tg : Nat, (pc : Int) + off = (tg : Int) ∧ xSafe p l e R0 s m args below meth c nL D dA cl tA B Q tg lv st_q h (σ.2.2.2.2.2.2.1 + K9) (σ.2.2.2.2.2.2.2 + N9) := by
          intro lo1 hi1 off hm g1 g2
          obtain ⟨x1, h5, h6⟩ := hall _ hm
          rw [hz] at g1 g2
          obtain ⟨q, r1, r2, r3, -⟩ := rAsL_ok (xs := [rPl a.2.2 (-lo1), rPl (rMu (-1) a.2.2) hi1]) hA.1.1 hA.1.2.1 (fun y hy => by
            simp only [List.mem_cons, List.not_mem_nil, or_false] at hy
            rcases hy with rfl | rfl
            · rw [rE_pl]; omega
            · rw [rE_pl, rE_mu]; omega)
          unfold rOne at h5
          rw [r1] at h5
          dsimp only at h5
          cases ht : aTg pc off with
          | none => rw [ht] at h5; cases h5
          | some tg =>
            rw [ht] at h5
            cases h5
            exact ⟨tg, aTg_ok ht, kk _ (h6 _ List.mem_cons_self) ρ γ lv st_q h rSm0_rf ⟨⟨r2, r3, hA.1.2.2⟩, hA.2.1, h4, hA.2.2.2⟩⟩
        by_cases hlo : z.toInt < lo ∨ hi < z.toInt
        · have hd : ∃ tg : Nat, (pc : Int) + dflt = (tg : Int) ∧ xSafe p l e R0 s m args below meth c nL D dA cl tA B Q tg lv st_q h (σ.2.2.2.2.2.2.1 + K9) (σ.2.2.2.2.2.2.2 + N9) := by
            rcases hlo with h5 | h5
            · exact one _ _ _ List.mem_cons_self (by omega) (by omega)
            · exact one _ _ _ (List.mem_cons_of_mem _ List.mem_cons_self) (by omega) (by omega)
          obtain ⟨tg, h5, h6⟩ := hd
          exact xs_tab C (tgt := tg) hdg (fun off ho => by rw [if_pos hlo] at ho; rw [ho]; exact ⟨h5, h6⟩) (fun q => absurd hlo q)
        · have hj : (z.toInt - lo).toNat < offs.size := by omega
          have he : offs[(z.toInt - lo).toNat]? = some (offs.getD (z.toInt - lo).toNat 0) := by
            rw [Array.getD_eq_getD_getElem?, Array.getElem?_eq_getElem hj]
            rfl
          obtain ⟨tg, h5, h6⟩ := one (lo + ((z.toInt - lo).toNat : Nat)) (lo + ((z.toInt - lo).toNat : Nat)) (offs.getD (z.toInt - lo).toNat 0) (List.mem_cons_of_mem _ (List.mem_cons_of_mem _ (List.mem_map.mpr ⟨_, List.mem_range.mpr hj, rfl⟩))) (by omega) (by omega)
          exact xs_tab C (tgt := tg) hdg (fun off ho => by rw [if_neg hlo, he] at ho; cases ho; exact ⟨h5, h6⟩) (fun _ => ⟨_, he⟩)
      · cases hs
    · cases hs
  · cases hs
end XUr
