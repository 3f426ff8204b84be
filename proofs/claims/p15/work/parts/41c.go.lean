/-! ===== the run of a body: its ends, and the patterns that it comes to ===== -/
noncomputable def zAc (W : List rGr) (T : List rIT) (j0 : List Nat) (m : Nat) (r0 : Option rX) (z : List rX × rS) (a : rS × rX) : Bool := rCk W T j0 j0 z.2 a.1 z.1 1 && rId m z.1 && rPv z.2.1 z.2.2.1 2 (rSx z.1 a.2) && (match r0 with | some r => rPv z.2.1 z.2.2.1 2 (rPl (rSb r (rSx z.1 a.2)) (-1)) | none => true)
noncomputable def zArv (W : List rGr) (T : List rIT) (j0 : List Nat) (m : Nat) (ann : List (Nat × rS × rX)) (r0 : Option rX) (q : zNx) : Option zNx := aFst (fun i => match ann[i]? with
  | some a => if Nat.beq a.1 q.2.1 = true then (match rMt0 W q.2.2.1 a.2.1 [] m 1 with
      | some z => if zAc W T j0 m r0 z a.2 = true then some (2, i, rNoL z.2 [], q.2.2.2.1, z.1) else none
      | none => none) else none
  | none => none) (List.range ann.length)
noncomputable def zGo (sc : Bool) (mx : List Nat) (W : List rGr) (T : List rIT) (own : rI) (J : List rI) (Bd : rBd) (ann : List (Nat × rS × rX)) (r0 : Option rX) : Nat → Nat → rS → List zLg → Option (List zNx)
  | 0, _, _, _ => none
  | f + 1, pc, σ, L => (match zSp sc mx W T own J Bd σ L pc with
    | some l => aAll (l.map (fun q => if q.1 = 0 then (if Nat.ble σ.1.length q.2.2.1.1.length = true ∧ Nat.ble σ.2.2.2.2.1.length q.2.2.1.2.2.2.2.1.length = true ∧ q.2.2.2.1.all (zLgb q.2.2.1.1.length q.2.2.1.2.2.2.2.1.length) = true then
        (match zArv W T own.2.2.2.1 own.2.2.1.1.length ann r0 q with | some z => some [z] | none => zGo sc mx W T own J Bd ann r0 f q.2.1 q.2.2.1 q.2.2.2.1) else none) else some [q]))
    | none => none)
section ZGo
variable {p : Program} {l : Launch} {e : Env} {R0 : Room} {s : State} {m : MethodId} {args : Array Value} {below : List Frame} {meth : Method} {c : Code} {Q : State → Prop} {K9 N9 : Nat}
variable {cc : ByteArray} {nL : Nat} {Ts : List Cond} {own : String} {D : va_G} {dA : Nat → ClassId} {cl : List vw_C} {tA : List (Nat × FieldType)} {tyf : Nat → Nat → FieldType} {B : Nat}
variable {W : List rGr} {T : List rIT} {A : rA} {b : aSc} {i0 : List Nat} {ρ : Nat → Int} {γ : Nat → rHp} {σ : rS} {pc len : Nat} {lv : List (Nat × Value)} {st : List Value} {h : xH}
variable {kc9 kn9 : Nat} {own9 I : rI} {ρ0 : Nat → Int} {γ0 : Nat → rHp} {xn : List String} {nw : List Cond} {nc : List (String × String)} {ao : List String} {W0 : List Cond} {mth : List aMd} {mx : List Nat} {J : List rI}
variable {Bd : rBd} {ann : List (Nat × rS × rX)} {r0 : Option rX} {S : Nat → zSpc} {S9 : zSpc}
theorem zGo_ok (C : xCx p s m args c cc nL Ts own D dA cl tA tyf B) (hE : xEnv D dA cl tA B nw nc ao s) (hlocks : meth.locks = false) (hRm : rRmo own9 R0 K9 N9 kc9 kn9) (hl0 : l.stackTraces = false) (hJ : ∀ (n : Nat) (I : rI), J[n]? = some I → ∀ d : aMd, mth[I.1]? = some d → zMt D dA cl tA B nw nc ao W0 l W T A b xn d.1 (aCw d) (S n) I) (hBg : aBg own Ts cl tA tyf [] nw nc W0 mth mx xn b meth s c cc nL Bd.1) (hCp : ∀ x ∈ Bd.2.2.2, xCpy own Ts x) (hKt : ∀ g ∈ W, 1000 ≤ g.1 → ∃ ty, (g.1, ty) ∈ tA) (hI : rInj W A) {xs : Nat → Int32} {sc : Bool} (hX : sc = true → (va_X b.1 b.2.1 xs s s.heap ∧ b.1 < s.heap.size ∧ ¬ B ≤ b.1) ∧ ∀ j : Nat, j < b.2.1 → γ0 0 (W.length - 1) 0 (j : Int) = (xs j).toInt) {v0 : Int} {σs : rS} {ρs : Nat → Int} {γs : Nat → rHp} {Kk : Nat → List Int → rHp → rHp → Prop} {lf : List zNx}
    (hann : ∀ (i pc : Nat) (P : rS) (r : rX), ann[i]? = some (pc, P, r) → ∀ (ρ_q : Nat → Int) (γ_q : Nat → rHp) (lv_q : List (Nat × Value)) (st_q : List Value) (h_q : xH), rSt W T B A b own9.2.2.2.1 ρ_q γ_q P lv_q st_q h_q → ((∀ k, k < own9.2.2.1.1.length → ρ_q k = ρ0 k) ∧ γ_q 0 = γ0 0) → 0 ≤ rE ρ_q r → (r0 ≠ none → rE ρ_q r < v0) → Kk i (zAg P.1.length ρ_q) (γ_q 0) (γ_q 1) → xSafe p l e R0 s m args below meth c nL D dA cl tA B (yEnd below args s D dA cl tA B (zQs W T B A b ρ0 γ0 S9 own9) (zXs W T B A b ρ0 γ0 xn S9 own9) kc9 kn9 R0.cells R0.slots) pc lv_q st_q h_q (P.2.2.2.2.2.2.1 + K9) (P.2.2.2.2.2.2.2 + N9))
    (hE1 : ∀ q ∈ lf, q.1 = 1 → ∀ (ρ_q : Nat → Int) (γ_q : Nat → rHp), rSm0 σs ρs ρ_q γs γ_q → zK W T own9.2.2.2.1 ρ_q γ_q q.2.2.1 → zLgs S ρ_q γ_q q.2.2.2.1 → S9 (zAg own9.2.2.1.1.length ρ0) (γ0 0) q.2.1 (rE ρ_q (zTx q.2.2.1.2.2.2.1)) (γ_q q.2.2.1.2.2.2.2.1.length))
    (hE2 : ∀ q ∈ lf, q.1 = 2 → ∀ (ρ_q : Nat → Int) (γ_q : Nat → rHp), rSm0 σs ρs ρ_q γs γ_q → zK W T own9.2.2.2.1 ρ_q γ_q q.2.2.1 → zLgs S ρ_q γ_q q.2.2.2.1 → Kk q.2.1 (q.2.2.2.2.map (rE ρ_q)) (γ_q 0) (γ_q q.2.2.1.2.2.2.2.1.length)) :
    ∀ (f pc : Nat) (σ : rS) (L : List zLg) (ρ : Nat → Int) (γ : Nat → rHp) (lv : List (Nat × Value)) (st : List Value) (h : xH) (l1 : List zNx), zGo sc mx W T own9 J Bd ann r0 f pc σ L = some l1 → (∀ z ∈ l1, z ∈ lf) → rSt W T B A b own9.2.2.2.1 ρ γ σ lv st h → ((∀ k, k < own9.2.2.1.1.length → ρ k = ρ0 k) ∧ γ 0 = γ0 0) → own9.2.2.1.1.length ≤ σ.1.length → σs.1.length ≤ σ.1.length → σs.2.2.2.2.1.length ≤ σ.2.2.2.2.1.length → rSm0 σs ρs ρ γs γ → zLgs S ρ γ L → L.all (zLgb σ.1.length σ.2.2.2.2.1.length) = true →
      (∀ r, r0 = some r → rWx σ.1.length r = true ∧ rE ρ r = v0) → xSafe p l e R0 s m args below meth c nL D dA cl tA B (yEnd below args s D dA cl tA B (zQs W T B A b ρ0 γ0 S9 own9) (zXs W T B A b ρ0 γ0 xn S9 own9) kc9 kn9 R0.cells R0.slots) pc lv st h (σ.2.2.2.2.2.2.1 + K9) (σ.2.2.2.2.2.2.2 + N9) := by
  intro f
  induction f with
  | zero => intro pc σ L ρ γ lv st h l1 h1; cases h1
  | succ f ih =>
    intro pc σ L ρ γ lv st h l1 h1 hl1 hA hs hm hn1 hn2 hss hLg hLw hr
    unfold zGo at h1
    split at h1
    · rename_i l9 hl9
      have hall := aAll_in h1
      refine zSp_ok C hE hlocks hRm hl0 hJ hBg hCp hKt hI hX hA hs hm hLg hLw hl9 ?_ ?_
      · intro q hq q0 ρ_q γ_q lv_q st_q h_q g1 g3 gL
        obtain ⟨x, e1, e2⟩ := hall _ (List.mem_map.mpr ⟨q, hq, rfl⟩)
        rw [if_pos q0] at e1
        split at e1
        · rename_i hc
          obtain ⟨c1, c2, c3⟩ := hc
          have c1 := Nat.le_of_ble_eq_true c1
          have c2 := Nat.le_of_ble_eq_true c2
          have hs_q : (∀ k, k < own9.2.2.1.1.length → ρ_q k = ρ0 k) ∧ γ_q 0 = γ0 0 := ⟨fun k hk => (g1.1 k (by omega)).trans (hs.1 k hk), (g1.2 0 (Nat.zero_le _)).trans hs.2⟩
          have hss_q : rSm0 σs ρs ρ_q γs γ_q := ⟨fun k hk => (g1.1 k (by omega)).trans (hss.1 k hk), fun k hk => (g1.2 k (by omega)).trans (hss.2 k hk)⟩
          have hr_q : ∀ r, r0 = some r → rWx q.2.2.1.1.length r = true ∧ rE ρ_q r = v0 := by
            intro r hr0
            obtain ⟨e1, e2⟩ := hr r hr0
            refine ⟨?_, by rw [rE_same g1.1 e1]; exact e2⟩
            rw [rWx_eq] at e1 ⊢
            refine List.all_eq_true.mpr (fun y hy => ?_)
            have := (Nat.blt_eq).mp (List.all_eq_true.mp e1 y hy)
            exact (Nat.blt_eq).mpr (by omega)
          split at e1
          · rename_i z hz
            cases e1
            have hzl := hl1 _ (e2 _ List.mem_cons_self)
            unfold zArv at hz
            obtain ⟨i, -, hz⟩ := aFst_at hz
            split at hz
            · rename_i a ha
              split at hz
              · rename_i hpc
                have hpc := Nat.eq_of_beq_eq_true hpc
                split at hz
                · rename_i z9 hz9
                  obtain ⟨s9, σ9⟩ := z9
                  split at hz
                  · rename_i hck
                    cases hz
                    simp only [zAc, Bool.and_eq_true] at hck
                    obtain ⟨⟨⟨m1, m2⟩, m3⟩, m4⟩ := hck
                    obtain ⟨ρ9, a1, a2, a3, a4, a5, a6, a7, a8⟩ := zMt0_ok g3 hz9
                    obtain ⟨d1, d2, d3⟩ := rCk_ok a3 m1
                    have n1 := rPv_ok a3.1.1 a3.1.2.1 m3
                    rw [rE_sx] at n1
                    have hlt : r0 ≠ none → rE (rVs ρ9 s9) a.2.2 < v0 := by
                      intro hn
                      cases e0 : r0 with
                      | none => exact absurd e0 hn
                      | some r =>
                        rw [e0] at m4
                        have n2 := rPv_ok a3.1.1 a3.1.2.1 m4
                        rw [rE_pl, rE_sb, rE_sx] at n2
                        obtain ⟨w1, w2⟩ := hr_q r e0
                        rw [rE_same a1 w1, w2] at n2
                        omega
                    have hs9 : (∀ k, k < own9.2.2.1.1.length → rVs ρ9 s9 k = ρ0 k) ∧ rGv γ_q σ9.2.2.2.2.1.length 1 0 = γ0 0 := by
                      refine ⟨fun k hk => (rId_ok m2 hk).trans ((a1 k (by omega)).trans (hs_q.1 k hk)), ?_⟩
                      simp only [rGv]
                      rw [if_neg (by decide)]
                      exact hs_q.2
                    have hss9 : rSm0 σs ρs ρ9 γs γ_q := ⟨fun k hk => (a1 k (by omega)).trans (hss_q.1 k hk), hss_q.2⟩
                    have hK9 := hE2 _ hzl rfl ρ9 γ_q hss9 a3.1 (zLgs_same c3 a1 (fun _ _ => rfl) gL)
                    have hK9 : Kk i (zAg a.2.1.1.length (rVs ρ9 s9)) (rGv γ_q σ9.2.2.2.2.1.length 1 0) (rGv γ_q σ9.2.2.2.2.1.length 1 1) := by
                      rw [zAg_vs a7]
                      simp only [rGv]
                      rw [if_neg (by decide), if_pos trivial]
                      exact hK9
                    have := hann i a.1 a.2.1 a.2.2 ha (rVs ρ9 s9) (rGv γ_q σ9.2.2.2.2.1.length 1) lv_q st_q h_q d1 hs9 n1 hlt hK9
                    rw [← hpc]
                    exact xSafe_widen (Nat.add_le_add_right (by rw [← a5]; exact d2) K9) (Nat.add_le_add_right (by rw [← a5]; exact d3) N9) this
                  · cases hz
                · cases hz
              · cases hz
            · cases hz
          · exact ih q.2.1 q.2.2.1 q.2.2.2.1 ρ_q γ_q lv_q st_q h_q x e1 (fun z hz => hl1 z (e2 z hz)) g3 hs_q (by omega) (by omega) (by omega) hss_q gL c3 hr_q
        · cases e1
      · intro q hq q0 ρ_q γ_q g1 g3 gL
        obtain ⟨x, e1, e2⟩ := hall _ (List.mem_map.mpr ⟨q, hq, rfl⟩)
        rw [if_neg (by omega)] at e1
        cases e1
        have hss_q : rSm0 σs ρs ρ_q γs γ_q := ⟨fun k hk => (g1.1 k (by omega)).trans (hss.1 k hk), fun k hk => (g1.2 k (by omega)).trans (hss.2 k hk)⟩
        exact hE1 q (hl1 _ (e2 _ List.mem_cons_self)) q0 ρ_q γ_q hss_q g3 gL
    · cases h1
end ZGo
/-! what a case does, by its runs: l0 from its beginning, la i from the pattern i, of nA i numbers -/
noncomputable def zF0 (W : List rGr) (T : List rIT) (i0 : List Nat) (m : Nat) (S : Nat → zSpc) (a : List Int) (g : rHp) (q : zNx) (ρ : Nat → Int) (γ : Nat → rHp) : Prop := zAg m ρ = a ∧ γ 0 = g ∧ zK W T i0 ρ γ q.2.2.1 ∧ zLgs S ρ γ q.2.2.2.1
noncomputable def zFA (W : List rGr) (T : List rIT) (i0 : List Nat) (m n : Nat) (S : Nat → zSpc) (a : List Int) (g : rHp) (us : List Int) (g1 : rHp) (q : zNx) (ρ : Nat → Int) (γ : Nat → rHp) : Prop := zAg n ρ = us ∧ γ 1 = g1 ∧ zF0 W T i0 m S a g q ρ γ
noncomputable def zRch (W : List rGr) (T : List rIT) (i0 : List Nat) (m : Nat) (S : Nat → zSpc) (l0 : List zNx) (la : Nat → List zNx) (nA : Nat → Nat) (a : List Int) (g : rHp) : Nat → Nat → List Int → rHp → Prop
  | 0, i, vs, g1 => ∃ q ∈ l0, q.1 = 2 ∧ q.2.1 = i ∧ ∃ (ρ : Nat → Int) (γ : Nat → rHp), zF0 W T i0 m S a g q ρ γ ∧ vs = q.2.2.2.2.map (rE ρ) ∧ g1 = γ q.2.2.1.2.2.2.2.1.length
  | k + 1, i, vs, g1 => ∃ (j : Nat) (us : List Int) (g0 : rHp), zRch W T i0 m S l0 la nA a g k j us g0 ∧ ∃ q ∈ la j, q.1 = 2 ∧ q.2.1 = i ∧ ∃ (ρ : Nat → Int) (γ : Nat → rHp), zFA W T i0 m (nA j) S a g us g0 q ρ γ ∧ vs = q.2.2.2.2.map (rE ρ) ∧ g1 = γ q.2.2.1.2.2.2.2.1.length
noncomputable def zSem (W : List rGr) (T : List rIT) (i0 : List Nat) (m : Nat) (S : Nat → zSpc) (l0 : List zNx) (la : Nat → List zNx) (nA : Nat → Nat) : zSpc := fun a g o v g_q =>
  (∃ q ∈ l0, q.1 = 1 ∧ q.2.1 = o ∧ ∃ (ρ : Nat → Int) (γ : Nat → rHp), zF0 W T i0 m S a g q ρ γ ∧ v = rE ρ (zTx q.2.2.1.2.2.2.1) ∧ g_q = γ q.2.2.1.2.2.2.2.1.length) ∨
  ∃ (k j : Nat) (us : List Int) (g1 : rHp), zRch W T i0 m S l0 la nA a g k j us g1 ∧ ∃ q ∈ la j, q.1 = 1 ∧ q.2.1 = o ∧ ∃ (ρ : Nat → Int) (γ : Nat → rHp), zFA W T i0 m (nA j) S a g us g1 q ρ γ ∧ v = rE ρ (zTx q.2.2.1.2.2.2.1) ∧ g_q = γ q.2.2.1.2.2.2.2.1.length
section ZBd
variable {p : Program} {l : Launch} {e : Env} {R0 : Room} {s : State} {m : MethodId} {args : Array Value} {below : List Frame} {meth : Method} {c : Code} {Q : State → Prop} {K9 N9 : Nat}
variable {cc : ByteArray} {nL : Nat} {Ts : List Cond} {own : String} {D : va_G} {dA : Nat → ClassId} {cl : List vw_C} {tA : List (Nat × FieldType)} {tyf : Nat → Nat → FieldType} {B : Nat}
variable {W : List rGr} {T : List rIT} {A : rA} {b : aSc} {lv : List (Nat × Value)} {st : List Value} {h : xH}
variable {kc9 kn9 : Nat} {own9 : rI} {ρ0 : Nat → Int} {γ0 : Nat → rHp} {xn : List String} {nw : List Cond} {nc : List (String × String)} {ao : List String} {W0 : List Cond} {mth : List aMd} {mx : List Nat} {J : List rI}
variable {Bd : rBd} {ann : List (Nat × rS × rX)} {S : Nat → zSpc} {S9 : zSpc} {l0 : List zNx} {la : Nat → List zNx} {nA : Nat → Nat} {fuel : Nat}
theorem zAnn_ok (C : xCx p s m args c cc nL Ts own D dA cl tA tyf B) (hE : xEnv D dA cl tA B nw nc ao s) (hlocks : meth.locks = false) (hRm : rRmo own9 R0 K9 N9 kc9 kn9) (hl0 : l.stackTraces = false) (hJ : ∀ (n : Nat) (I : rI), J[n]? = some I → ∀ d : aMd, mth[I.1]? = some d → zMt D dA cl tA B nw nc ao W0 l W T A b xn d.1 (aCw d) (S n) I) (hBg : aBg own Ts cl tA tyf [] nw nc W0 mth mx xn b meth s c cc nL Bd.1) (hCp : ∀ x ∈ Bd.2.2.2, xCpy own Ts x) (hKt : ∀ g ∈ W, 1000 ≤ g.1 → ∃ ty, (g.1, ty) ∈ tA) (hI : rInj W A) {xs : Nat → Int32} {sc : Bool} (hX : sc = true → (va_X b.1 b.2.1 xs s s.heap ∧ b.1 < s.heap.size ∧ ¬ B ≤ b.1) ∧ ∀ j : Nat, j < b.2.1 → γ0 0 (W.length - 1) 0 (j : Int) = (xs j).toInt) (hS : ∀ a g o v g_q, zSem W T own9.2.2.2.1 own9.2.2.1.1.length S l0 la nA a g o v g_q → S9 a g o v g_q)
    (hka : ∀ (i : Nat) (a : Nat × rS × rX), ann[i]? = some a → zGo sc mx W T own9 J Bd ann (some a.2.2) fuel a.1 a.2.1 [] = some (la i) ∧ nA i = a.2.1.1.length ∧ own9.2.2.1.1.length ≤ a.2.1.1.length ∧ rWx a.2.1.1.length a.2.2 = true ∧ a.2.1.2.2.2.2.1.length = 1) :
    ∀ (n : Nat), ∀ (i pc : Nat) (P : rS) (r : rX), ann[i]? = some (pc, P, r) → ∀ (ρ_q : Nat → Int) (γ_q : Nat → rHp) (lv_q : List (Nat × Value)) (st_q : List Value) (h_q : xH), rSt W T B A b own9.2.2.2.1 ρ_q γ_q P lv_q st_q h_q → ((∀ k, k < own9.2.2.1.1.length → ρ_q k = ρ0 k) ∧ γ_q 0 = γ0 0) → 0 ≤ rE ρ_q r → rE ρ_q r < n → (∃ k, zRch W T own9.2.2.2.1 own9.2.2.1.1.length S l0 la nA (zAg own9.2.2.1.1.length ρ0) (γ0 0) k i (zAg P.1.length ρ_q) (γ_q 1)) → xSafe p l e R0 s m args below meth c nL D dA cl tA B (yEnd below args s D dA cl tA B (zQs W T B A b ρ0 γ0 S9 own9) (zXs W T B A b ρ0 γ0 xn S9 own9) kc9 kn9 R0.cells R0.slots) pc lv_q st_q h_q (P.2.2.2.2.2.2.1 + K9) (P.2.2.2.2.2.2.2 + N9) := by
  intro n
  induction n with
  | zero => intro i pc P r _ ρ_q γ_q lv_q st_q h_q _ _ h9 h10; omega
  | succ n ih =>
    intro i pc P r hin ρ_q γ_q lv_q st_q h_q g1 g2 g4 g5 ⟨kk, hkk⟩
    obtain ⟨j1, j2, j3, j4, j5⟩ := hka i _ hin
    dsimp only at j1 j2 j3 j4 j5
    refine zGo_ok (r0 := some r) (v0 := rE ρ_q r) (σs := P) (ρs := ρ_q) (γs := γ_q) (lf := la i) (Kk := fun i2 vs _ g9 => ∃ k, zRch W T own9.2.2.2.1 own9.2.2.1.1.length S l0 la nA (zAg own9.2.2.1.1.length ρ0) (γ0 0) k i2 vs g9) C hE hlocks hRm hl0 hJ hBg hCp hKt hI hX ?_ ?_ ?_ fuel pc P [] ρ_q γ_q lv_q st_q h_q (la i) j1 (fun z hz => hz) g1 g2 j3 (Nat.le_refl _) (Nat.le_refl _) rSm0_rf (fun z hz => by cases hz) rfl ?_
    · intro i2 pc2 P2 r2 hin2 ρ2 γ2 lv2 st2 h2 f1 f2 f4 f5 f6
      have := f5 (by simp)
      exact ih i2 pc2 P2 r2 hin2 ρ2 γ2 lv2 st2 h2 f1 f2 f4 (by omega) f6
    · intro q hq q0 ρ2 γ2 f1 f2 f3
      refine hS _ _ _ _ _ (Or.inr ⟨kk, i, _, _, hkk, q, hq, q0, rfl, ρ2, γ2, ⟨?_, f1.2 1 (by rw [j5]; exact Nat.le_refl _), ?_, (f1.2 0 (Nat.zero_le _)).trans g2.2, f2, f3⟩, rfl, rfl⟩)
      · rw [j2]
        exact zAg_same f1.1
      · exact zAg_same (fun k hk => (f1.1 k (by omega)).trans (g2.1 k hk))
    · intro q hq q0 ρ2 γ2 f1 f2 f3
      refine ⟨kk + 1, i, _, _, hkk, q, hq, q0, rfl, ρ2, γ2, ⟨?_, f1.2 1 (by rw [j5]; exact Nat.le_refl _), ?_, (f1.2 0 (Nat.zero_le _)).trans g2.2, f2, f3⟩, rfl, rfl⟩
      · rw [j2]
        exact zAg_same f1.1
      · exact zAg_same (fun k hk => (f1.1 k (by omega)).trans (g2.1 k hk))
    · intro r_q hr_q
      cases hr_q
      exact ⟨j4, rfl⟩
theorem zBd_ok (C : xCx p s m args c cc nL Ts own D dA cl tA tyf B) (hE : xEnv D dA cl tA B nw nc ao s) (hlocks : meth.locks = false) (hRm : rRmo own9 R0 K9 N9 kc9 kn9) (hl0 : l.stackTraces = false) (hJ : ∀ (n : Nat) (I : rI), J[n]? = some I → ∀ d : aMd, mth[I.1]? = some d → zMt D dA cl tA B nw nc ao W0 l W T A b xn d.1 (aCw d) (S n) I) (hBg : aBg own Ts cl tA tyf [] nw nc W0 mth mx xn b meth s c cc nL Bd.1) (hCp : ∀ x ∈ Bd.2.2.2, xCpy own Ts x) (hKt : ∀ g ∈ W, 1000 ≤ g.1 → ∃ ty, (g.1, ty) ∈ tA) (hI : rInj W A) {xs : Nat → Int32} {sc : Bool} (hX : sc = true → (va_X b.1 b.2.1 xs s s.heap ∧ b.1 < s.heap.size ∧ ¬ B ≤ b.1) ∧ ∀ j : Nat, j < b.2.1 → γ0 0 (W.length - 1) 0 (j : Int) = (xs j).toInt) (hS : ∀ a g o v g_q, zSem W T own9.2.2.2.1 own9.2.2.1.1.length S l0 la nA a g o v g_q → S9 a g o v g_q)
    (hka : ∀ (i : Nat) (a : Nat × rS × rX), ann[i]? = some a → zGo sc mx W T own9 J Bd ann (some a.2.2) fuel a.1 a.2.1 [] = some (la i) ∧ nA i = a.2.1.1.length ∧ own9.2.2.1.1.length ≤ a.2.1.1.length ∧ rWx a.2.1.1.length a.2.2 = true ∧ a.2.1.2.2.2.2.1.length = 1)
    {σ : rS} (hk0 : zGo sc mx W T own9 J Bd ann none fuel 0 σ [] = some l0) (hA : rSt W T B A b own9.2.2.2.1 ρ0 γ0 σ lv st h) (hm : own9.2.2.1.1.length ≤ σ.1.length) : xSafe p l e R0 s m args below meth c nL D dA cl tA B (yEnd below args s D dA cl tA B (zQs W T B A b ρ0 γ0 S9 own9) (zXs W T B A b ρ0 γ0 xn S9 own9) kc9 kn9 R0.cells R0.slots) 0 lv st h (σ.2.2.2.2.2.2.1 + K9) (σ.2.2.2.2.2.2.2 + N9) := by
  refine zGo_ok (r0 := none) (v0 := 0) (σs := σ) (ρs := ρ0) (γs := γ0) (lf := l0) (Kk := fun i2 vs _ g9 => ∃ k, zRch W T own9.2.2.2.1 own9.2.2.1.1.length S l0 la nA (zAg own9.2.2.1.1.length ρ0) (γ0 0) k i2 vs g9) C hE hlocks hRm hl0 hJ hBg hCp hKt hI hX ?_ ?_ ?_ fuel 0 σ [] ρ0 γ0 lv st h l0 hk0 (fun z hz => hz) hA ⟨fun _ _ => rfl, rfl⟩ hm (Nat.le_refl _) (Nat.le_refl _) rSm0_rf (fun z hz => by cases hz) rfl (fun r hr => by cases hr)
  · intro i2 pc2 P2 r2 hin2 ρ2 γ2 lv2 st2 h2 f1 f2 f4 f5 f6
    exact zAnn_ok C hE hlocks hRm hl0 hJ hBg hCp hKt hI hX hS hka ((rE ρ2 r2).toNat + 1) i2 pc2 P2 r2 hin2 ρ2 γ2 lv2 st2 h2 f1 f2 f4 (by omega) f6
  · intro q hq q0 ρ2 γ2 f1 f2 f3
    exact hS _ _ _ _ _ (Or.inl ⟨q, hq, q0, rfl, ρ2, γ2, ⟨zAg_same (fun k hk => f1.1 k (by omega)), f1.2 0 (Nat.zero_le _), f2, f3⟩, rfl, rfl⟩)
  · intro q hq q0 ρ2 γ2 f1 f2 f3
    exact ⟨0, q, hq, q0, rfl, ρ2, γ2, ⟨zAg_same (fun k hk => f1.1 k (by omega)), f1.2 0 (Nat.zero_le _), f2, f3⟩, rfl, rfl⟩
end ZBd
section ZMt
variable {D : va_G} {dA : Nat → ClassId} {cl : List vw_C} {tA : List (Nat × FieldType)} {tyf : Nat → Nat → FieldType} {B : Nat} {nw : List Cond} {nc : List (String × String)} {ao : List String} {W0 : List Cond} {l : Launch} {W : List rGr} {T : List rIT} {A : rA} {b : aSc} {xn : List String} {mth : List aMd} {mx : List Nat} {J : List rI} {d : aMd} {I : rI} {Bd : rBd} {ann : List (Nat × rS × rX)} {S : Nat → zSpc} {S9 : zSpc} {l0 : List zNx} {la : Nat → List zNx} {nA : Nat → Nat}
theorem zMt_of (hsg : aSg cl tA tyf [] nw nc ao W0 mth mx xn d Bd.1) (hcp : ∀ x ∈ Bd.2.2.2, xCpy d.1.cls W0 x) (hy : plainFor d.1 = true) (hTab : xTab cl tA tyf W0) (hl0 : l.stackTraces = false) (hL : b.2.1 < 2147483648) (hKt : ∀ g ∈ W, 1000 ≤ g.1 → ∃ ty, (g.1, ty) ∈ tA) (hI : rInj W A) (hJ : ∀ (n : Nat) (I : rI), J[n]? = some I → ∀ d : aMd, mth[I.1]? = some d → zMt D dA cl tA B nw nc ao W0 l W T A b xn d.1 (aCw d) (S n) I)
    (hS : ∀ a g o v g_q, zSem W T I.2.2.2.1 I.2.2.1.1.length S l0 la nA a g o v g_q → S9 a g o v g_q) {fuel : Nat}
    (hka : ∀ (i : Nat) (a : Nat × rS × rX), ann[i]? = some a → zGo false mx W T I J Bd ann (some a.2.2) fuel a.1 a.2.1 [] = some (la i) ∧ nA i = a.2.1.1.length ∧ I.2.2.1.1.length ≤ a.2.1.1.length ∧ rWx a.2.1.1.length a.2.2 = true ∧ a.2.1.2.2.2.2.1.length = 1)
    (hk0 : zGo false mx W T I J Bd ann none fuel 0 (rEnt I) [] = some l0) (ha : (I.2.2.1.2.2.2.1.map rcat).sum ≤ d.2.2.1) : zMt D dA cl tA B nw nc ao W0 l W T A b xn d.1 (aCw d) S9 I := by
  intro ρ γ av h hA
  have hA_q : rSt W T B A b I.2.2.2.1 ρ γ (rEnt I) (lv_args 0 av) [] h := ⟨hA.1, (fun q hq => by
    obtain ⟨x, h1, h2, -⟩ := rArgs_ok hA.2.2.1 q hq
    exact ⟨x, h1, h2⟩), trivial, hA.2.2.2⟩
  have hav : (lg_sl av).length ≤ d.2.2.1 := by
    rw [rSl_len hA.2.2.1]
    exact ha
  have hT : ∀ cw, xTab cl tA tyf (cw :: W0) := fun cw => ⟨fun ci r hr => by
    obtain ⟨g1, g2, g3⟩ := hTab.1 ci r hr
    exact ⟨g1, fun w hw => List.mem_cons_of_mem _ (g2 w hw), g3⟩, hTab.2⟩
  unfold aCw
  split
  · rename_i hh
    refine yMet_of (tyf := tyf) hy (hT _) hav (fun p e s m args below meth c C hE hlocks hr hn hnt => ?_)
    have hx : c.exceptionTable.toList = tableOf d.2.2.2.2 := by
      rw [hh]
      cases hc : c.exceptionTable.toList with
      | nil => rfl
      | cons z zs => exact (hnt z (by rw [hc]; exact List.mem_cons_self)).elim
    exact zBd_ok (K9 := 0) (N9 := 0) (xs := fun _ => 0) C hE hlocks (rRmo_self I) hl0 hJ (aSg_bg (fun w hw => List.mem_cons_of_mem _ hw) hsg hL hE hn hr hx) (fun x hx => rCp_mem (hcp x hx)) hKt hI (fun q => by cases q) hS hka hk0 hA_q (Nat.le_refl _)
  · rename_i hh
    refine yMet_ofH (tyf := tyf) hy (hT _) hav (fun p e s m args below meth c C hE hlocks hr hn hx => ?_)
    exact zBd_ok (K9 := 0) (N9 := 0) (xs := fun _ => 0) C hE hlocks (rRmo_self I) hl0 hJ (aSg_bg (fun w hw => List.mem_cons_of_mem _ hw) hsg hL hE hn hr hx) (fun x hx => rCp_mem (hcp x hx)) hKt hI (fun q => by cases q) hS hka hk0 hA_q (Nat.le_refl _)
end ZMt
