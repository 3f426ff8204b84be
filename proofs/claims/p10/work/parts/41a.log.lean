/-! ===== what a body does: a run with a log ===== -/
/-- what a case does: the numbers at its beginning, the heap, the end (0: it returns, x + 1: it throws x), the answer, the heap -/
abbrev zSpc : Type := List Int → rHp → Nat → Int → rHp → Prop
/-- a row of the log: a case that was called, or an operation; its lines; the version ahead of it; the end; the answer -/
abbrev zLg : Type := (Nat ⊕ Instr) × List rX × Nat × Nat × rX
/-- (0, pc): on there; (1, o): the end o; (2, i): the pattern i, whose numbers are the lines -/
abbrev zNx : Type := Nat × Nat × rS × List zLg × List rX
noncomputable def zCpy (g : rHp) (G0 : Nat) (k0 sp : Int) (G1 : Nat) (k1 dp n : Int) : rHp := fun G k j => if G = G1 ∧ k = k1 ∧ dp ≤ j ∧ j < dp + n then g G0 k0 (sp + (j - dp)) else g G k j
noncomputable def zOpP (i : Instr) (g g_q : rHp) : List Int → Int → Prop
  | [x], z => ∃ a v : Value, xop1 i a = some v ∧ rNum a = x ∧ rNum v = z
  | [x, y], z => ∃ a b v : Value, xop2 i a b = some v ∧ rNum a = x ∧ rNum b = y ∧ rNum v = z
  | [x, y, _], _ => x ≠ y
  | [G0, k0, sp, G1, k1, dp, n], _ => g_q = zCpy g G0.toNat k0 sp G1.toNat k1 dp n
  | _, _ => True
noncomputable def zLgP (S : Nat → zSpc) (ρ : Nat → Int) (γ : Nat → rHp) (q : zLg) : Prop := match q.1 with
  | .inl k => S k (q.2.1.map (rE ρ)) (γ q.2.2.1) q.2.2.2.1 (rE ρ q.2.2.2.2) (γ (q.2.2.1 + 1))
  | .inr i => zOpP i (γ q.2.2.1) (γ (q.2.2.1 + 1)) (q.2.1.map (rE ρ)) (rE ρ q.2.2.2.2)
noncomputable def zLgs (S : Nat → zSpc) (ρ : Nat → Int) (γ : Nat → rHp) (L : List zLg) : Prop := ∀ q ∈ L, zLgP S ρ γ q
/-- its lines and versions are there -/
noncomputable def zLgb (n v : Nat) (q : zLg) : Bool := rCo (rAa (rWx n) q.2.1) (rCo (rWx n q.2.2.2.2) (rCo (Nat.ble (Nat.succ q.2.2.1) v) true (@Sum.rec Nat Instr (fun _ => Bool) (fun _ => false) (fun _ => Nat.ble q.2.1.length 3) q.1)) false) false
theorem zOp_ble {i : Instr} {g g_q h h_q : rHp} : ∀ {l : List Int} {z : Int}, l.length ≤ 3 → zOpP i g g_q l z → zOpP i h h_q l z
  | [], _, _, p => p
  | [_], _, _, p => p
  | [_, _], _, _, p => p
  | [_, _, _], _, _, p => p
  | _ :: _ :: _ :: _ :: _, _, hl, _ => by simp at hl
theorem zLgs_same {S : Nat → zSpc} {n v : Nat} {ρ ρ_q : Nat → Int} {γ γ_q : Nat → rHp} {L : List zLg} (hw : L.all (zLgb n v) = true) (hs : ∀ k, k < n → ρ_q k = ρ k) (hg : ∀ k, k ≤ v → γ_q k = γ k) (h : zLgs S ρ γ L) : zLgs S ρ_q γ_q L := by
  intro q hq
  have h1 := List.all_eq_true.mp hw q hq
  have h2 := h q hq
  obtain ⟨w1, h1⟩ := rcn.mp h1
  obtain ⟨w2, h1⟩ := rcn.mp h1
  rw [rAa_eq] at w1
  have e1 : q.2.1.map (rE ρ_q) = q.2.1.map (rE ρ) := List.map_congr_left (fun x hx => rE_same hs (List.all_eq_true.mp w1 x hx))
  have e2 : rE ρ_q q.2.2.2.2 = rE ρ q.2.2.2.2 := rE_same hs w2
  obtain ⟨k, l, n0, o, x⟩ := q
  rw [rct] at h1
  dsimp only at e1 e2 h1
  cases k with
  | inl k =>
    by_cases hb : Nat.ble (Nat.succ n0) v = true
    · have hb := Nat.le_of_ble_eq_true hb
      show S k (l.map (rE ρ_q)) (γ_q n0) o (rE ρ_q x) (γ_q (n0 + 1))
      rw [e1, e2, hg n0 (by omega), hg (n0 + 1) (by omega)]
      exact h2
    · rw [if_neg hb] at h1
      cases h1
  | inr i =>
    show zOpP i (γ_q n0) (γ_q (n0 + 1)) (l.map (rE ρ_q)) (rE ρ_q x)
    rw [e1, e2]
    by_cases hb : Nat.ble (Nat.succ n0) v = true
    · have hb := Nat.le_of_ble_eq_true hb
      rw [hg n0 (by omega), hg (n0 + 1) (by omega)]
      exact h2
    · rw [if_neg hb] at h1
      have h1 := Nat.le_of_ble_eq_true (show Nat.ble l.length 3 = true from h1)
      exact zOp_ble (by rw [List.length_map]; exact h1) h2
theorem zLgs_app {S : Nat → zSpc} {ρ : Nat → Int} {γ : Nat → rHp} {L : List zLg} {q : zLg} (h : zLgs S ρ γ L) (hq : zLgP S ρ γ q) : zLgs S ρ γ (L ++ [q]) := by
  intro z hz
  rcases List.mem_append.mp hz with hz | hz
  · exact h z hz
  · rw [List.mem_singleton] at hz
    subst hz
    exact hq
noncomputable def zTx (S : List rV) : rX := match S with
  | v :: _ => if v.1 < 3 then v.2.2 else rC 0
  | [] => rC 0
noncomputable def zAg (m : Nat) (ρ : Nat → Int) : List Int := (List.range m).map ρ
theorem zAg_same {m : Nat} {ρ ρ_q : Nat → Int} (h : ∀ k, k < m → ρ_q k = ρ k) : zAg m ρ_q = zAg m ρ := List.map_congr_left (fun k hk => h k (List.mem_range.mp hk))
theorem zAg_vs {m : Nat} {ρ : Nat → Int} {s : List rX} (h : s.length = m) : zAg m (rVs ρ s) = s.map (rE ρ) := by
  subst h
  apply List.ext_getElem
  · simp [zAg]
  · intro i h1 h2
    have h3 : i < s.length := by simpa using h2
    simp [zAg, rVs, List.getD_eq_getElem?_getD, List.getElem?_eq_getElem h3]
noncomputable def zQs (W : List rGr) (T : List rIT) (B : Nat) (A : rA) (b : aSc) (ρ : Nat → Int) (γ : Nat → rHp) (Sn : zSpc) (I : rI) : Option Value → xH → Prop := fun v h_q =>
  ∃ E ∈ I.2.2.2.2.1, ∃ (ρ_q : Nat → Int) (γ_q : Nat → rHp), (∀ k, k < I.2.2.1.1.length → ρ_q k = ρ k) ∧ γ_q 0 = γ 0 ∧ rSt W T B A b I.2.2.2.1 ρ_q γ_q E [] v.toList h_q ∧ Sn (zAg I.2.2.1.1.length ρ) (γ 0) 0 (rE ρ_q (zTx E.2.2.2.1)) (γ_q 1)
noncomputable def zXs (W : List rGr) (T : List rIT) (B : Nat) (A : rA) (b : aSc) (ρ : Nat → Int) (γ : Nat → rHp) (xn : List String) (Sn : zSpc) (I : rI) : String → xH → Prop := fun X h_q =>
  ∃ q ∈ I.2.2.2.2.2, xn[q.1]? = some X ∧ ∃ (ρ_q : Nat → Int) (γ_q : Nat → rHp), (∀ k, k < I.2.2.1.1.length → ρ_q k = ρ k) ∧ γ_q 0 = γ 0 ∧ rSt W T B A b I.2.2.2.1 ρ_q γ_q q.2 [] [] h_q ∧ Sn (zAg I.2.2.1.1.length ρ) (γ 0) (q.1 + 1) 0 (γ_q 1)
/-- the case's contract, with what it does -/
noncomputable def zMt (D : va_G) (dA : Nat → ClassId) (cl : List vw_C) (tA : List (Nat × FieldType)) (B : Nat) (nw : List Cond) (nc : List (String × String)) (ao : List String) (W0 : List Cond) (l : Launch) (W : List rGr) (T : List rIT) (A : rA) (b : aSc) (xn : List String) (y : MethodName) (cw : Cond) (Sn : zSpc) (I : rI) : Prop :=
  ∀ (ρ : Nat → Int) (γ : Nat → rHp) (av : List Value) (h : xH), rSt W T B A b I.2.2.2.1 ρ γ I.2.2.1 [] av h → yMet D dA cl tA B nw nc ao W0 l y cw (rIr I) I.2.1.2.2.2.2.1 I.2.1.2.2.2.2.2 av h (zQs W T B A b ρ γ Sn I) (zXs W T B A b ρ γ xn Sn I)
/-- what is known of numbers and heaps -/
noncomputable def zK (W : List rGr) (T : List rIT) (i0 : List Nat) (ρ : Nat → Int) (γ : Nat → rHp) (σ : rS) : Prop := rK W T i0 ρ γ σ.1 σ.2.1 σ.2.2.2.2.1 σ.2.2.2.2.2.1
theorem yMet_mono {D : va_G} {dA : Nat → ClassId} {cl : List vw_C} {tA : List (Nat × FieldType)} {B : Nat} {nw : List Cond} {nc : List (String × String)} {ao : List String} {W0 : List Cond} {l : Launch} {y : MethodName} {cw : Cond} {rm : Room} {kc ks : Nat} {av : List Value} {h : xH} {Qf Qf_q : Option Value → xH → Prop} {Xf Xf_q : String → xH → Prop} (hQ : ∀ v h1, Qf v h1 → Qf_q v h1) (hX : ∀ X h1, Xf X h1 → Xf_q X h1) (hM : yMet D dA cl tA B nw nc ao W0 l y cw rm kc ks av h Qf Xf) : yMet D dA cl tA B nw nc ao W0 l y cw rm kc ks av h Qf_q Xf_q := by
  intro p e h1 h2 h3 s m args below h4 h5 h6 h7
  obtain ⟨n, o, g1, g2, g3, g4⟩ := hM p e h1 h2 h3 s m args below h4 h5 h6 h7
  refine ⟨n, o, g1, g2, g3, ?_⟩
  rcases g4 with ⟨⟨v, h9, e1, e2, e3, e4⟩, L, e5, e6⟩ | ⟨q, e0, E, ce, L, ⟨h9, e1, e2, e3⟩, e4⟩
  · exact Or.inl ⟨⟨v, h9, e1, hQ _ _ e2, e3, e4⟩, L, e5, e6⟩
  · exact Or.inr ⟨q, e0, E, ce, L, ⟨h9, hX _ _ e1, e2, e3⟩, e4⟩
theorem zMt_triv {D : va_G} {dA : Nat → ClassId} {cl : List vw_C} {tA : List (Nat × FieldType)} {B : Nat} {nw : List Cond} {nc : List (String × String)} {ao : List String} {W0 : List Cond} {l : Launch} {W : List rGr} {T : List rIT} {A : rA} {b : aSc} {xn : List String} {y : MethodName} {cw : Cond} {Sn : zSpc} {I : rI} (hS : ∀ a g o v g_q, Sn a g o v g_q) (h : rMt D dA cl tA B nw nc ao W0 l W T A b xn y cw I) : zMt D dA cl tA B nw nc ao W0 l W T A b xn y cw Sn I := by
  intro ρ γ av h0 hA
  refine yMet_mono ?_ ?_ (h ρ γ av h0 hA)
  · rintro v h1 ⟨E, e1, ρ_q, γ_q, e2, e3, e4⟩
    exact ⟨E, e1, ρ_q, γ_q, e2, e3, e4, hS _ _ _ _ _⟩
  · rintro X h1 ⟨q, e1, e0, ρ_q, γ_q, e2, e3, e4⟩
    exact ⟨q, e1, e0, ρ_q, γ_q, e2, e3, e4, hS _ _ _ _ _⟩
section XAf
variable {W : List rGr} {T : List rIT} {B : Nat} {A : rA} {b : aSc} {i0 : List Nat} {ρ : Nat → Int} {γ : Nat → rHp} {σ : rS} {lv : List (Nat × Value)} {st : List Value} {h h_q : xH} {I : rI} {E : rS}
theorem zAf_ok {dk dn : Nat} {s : List rX} {ρE : Nat → Int} {γE : Nat → rHp} {vs : List Value} (hA : rSt W T B A b i0 ρ γ σ lv st h) (hw : rWf σ σ.2.2.2.1 = true) (hsw : s.all (rWx σ.1.length) = true) (hl : s.length = I.2.2.1.1.length) (hce : rCe1 I E = true) (hρ : ∀ k, k < I.2.2.1.1.length → ρE k = rVs ρ s k) (hγ : γE 0 = γ σ.2.2.2.2.1.length) {iE : List Nat} (hE : rSt W T B A b iE ρE γE E [] vs h_q) :
    ∃ σ2, rAf dk dn σ s I E = some σ2 ∧ ∃ (ρ2 : Nat → Int) (γ2 : Nat → rHp), rSm0 σ ρ ρ2 γ γ2 ∧ rSt W T B A b i0 ρ2 γ2 σ2 lv (vs ++ st) h_q ∧ γ2 (σ.2.2.2.2.1.length + 1) = γE 1 ∧ ∀ x : rX, rWx E.1.length x = true → rE ρ2 (rSx (rSe σ s I E) x) = rE ρE x := by
  simp only [rCe1, Bool.and_eq_true] at hce
  obtain ⟨⟨⟨⟨c1, c2⟩, c3⟩, c4⟩, c5⟩ := hce
  have c1 := Nat.le_of_ble_eq_true c1
  simp only [rWf, Bool.and_eq_true] at hw
  have hw1 := hw.1
  simp only [rWk, rAa_eq, Bool.and_eq_true] at hw1
  let ρ2 : Nat → Int := fun k => if k < σ.1.length then ρ k else ρE (I.2.2.1.1.length + (k - σ.1.length))
  let γ2 : Nat → rHp := aUp γ (σ.2.2.2.2.1.length + 1) (γE 1)
  have hs : ∀ k, k < σ.1.length → ρ2 k = ρ k := fun k hk => if_pos hk
  have hg : ∀ n, n ≤ σ.2.2.2.2.1.length → γ2 n = γ n := fun n hn => aUp_ne _ _ (by omega)
  have hv : ∀ k, k < E.1.length → rVs ρ2 (rSe σ s I E) k = ρE k := rVs_se hl c1 (fun k hk => by
    rw [hρ k hk, rVs_same (fun x hx => rE_same hs (List.all_eq_true.mp hsw x hx))]) (fun k hk => by
    show (if _ then _ else _) = _
    rw [if_neg (by omega)]
    congr 1
    omega)
  have hx : ∀ x : rX, rWx E.1.length x = true → rE ρ2 (rSx (rSe σ s I E) x) = rE ρE x := fun x hx => by
    rw [rE_sx]
    exact rE_same hv hx
  have hR : aOkR (σ.1 ++ E.1.drop I.2.2.1.1.length) ρ2 := by
    intro k
    unfold aG
    rw [List.getD_eq_getElem?_getD]
    by_cases hk : k < σ.1.length
    · rw [List.getElem?_append_left hk, hs k hk]
      have := hA.1.1 k
      unfold aG at this
      rw [List.getD_eq_getElem?_getD] at this
      exact this
    · rw [List.getElem?_append_right (by omega), List.getElem?_drop]
      have e : ρ2 k = ρE (I.2.2.1.1.length + (k - σ.1.length)) := if_neg hk
      rw [e]
      have := hE.1.1 (I.2.2.1.1.length + (k - σ.1.length))
      unfold aG at this
      rw [List.getD_eq_getElem?_getD] at this
      exact this
  obtain ⟨q, e1, e2, e3, e4⟩ := rAsL_ok (xs := E.2.1.map (rSx (rSe σ s I E))) hR (rFa_same hs hw1.1.1 hA.1.2.1) (fun y hy => by
    obtain ⟨x, hxm, rfl⟩ := List.mem_map.mp hy
    rw [hx x (List.all_eq_true.mp c2 x hxm)]
    exact hE.1.2.1 x hxm)
  split at c5
  · rename_i d hd
    unfold rAf
    rw [e1, hd]
    refine ⟨_, rfl, ρ2, γ2, ⟨hs, hg⟩, ⟨⟨e2, e3, ⟨?_, rCh_up hg (rCh_same hs hw1.1.2 hA.1.2.2.1)⟩, ?_, ?_, ?_⟩, ?_, ?_, ?_⟩, aUp_self _ _ _, hx⟩
    · have hch := hE.1.2.2.1
      rw [hd] at hch
      have h1 := hch.1
      unfold rD1 at h1 ⊢
      rw [if_neg (by intro z; rw [z] at c5; cases c5)] at h1
      rw [if_neg (by decide : ¬ (1 : Nat) = 0)]
      show (∀ G k j, _ → aUp γ _ (γE 1) (σ.2.2.2.2.1.length + 1) G k j = γ2 σ.2.2.2.2.1.length G k j) ∧ rIvs T (aUp γ _ (γE 1) (σ.2.2.2.2.1.length + 1)) _
      rw [aUp_self, hg _ (Nat.le_refl _), ← hγ]
      exact h1
    · intro z hz
      rcases List.mem_append.mp hz with hz | hz
      · exact rMo_same hs hg hw1.2 hA.1.2.2.2.1 z hz
      · obtain ⟨y, hy, rfl⟩ := List.mem_map.mp hz
        obtain ⟨hy1, hy2⟩ := List.mem_filter.mp hy
        have hy2 := Nat.eq_of_beq_eq_true hy2
        have hyw := List.all_eq_true.mp c4 y hy1
        simp only [rWm, Bool.and_eq_true] at hyw
        have := hE.1.2.2.2.1 y hy1
        rw [hy2] at this
        show aUp γ _ (γE 1) (σ.2.2.2.2.1.length + 1) y.2.1 _ _ = _
        rw [aUp_self]
        dsimp only
        rw [hx _ hyw.1.1.2, hx _ hyw.1.2, hx _ hyw.2]
        exact this
    · intro n hn
      by_cases e : n = σ.2.2.2.2.1.length + 1
      · rw [e]
        show rRg W (aUp γ _ (γE 1) (σ.2.2.2.2.1.length + 1))
        rw [aUp_self]
        exact hE.1.2.2.2.2.1 1 (by rw [hd]; exact Nat.le_refl _)
      · have hn2 : n ≤ σ.2.2.2.2.1.length + 1 := hn
        rw [hg n (by omega)]
        exact hA.1.2.2.2.2.1 n (by omega)
    · rw [hg _ (Nat.zero_le _)]
      exact hA.1.2.2.2.2.2
    · exact (rLs_loc (W := W) (A := A) (b := b) (lv := lv) (st := st) (fun x hx => rE_same hs (List.all_eq_true.mp hw.2 x hx)) hA.2.1 hA.2.2.1).1
    · have hS := (rLs_loc (W := W) (A := A) (b := b) (lv := lv) (st := st) (fun x hx => rE_same hs (List.all_eq_true.mp hw.2 x hx)) hA.2.1 hA.2.2.1).2
      exact rStk_map hS (fun u hu => hx _ (List.all_eq_true.mp c3 u hu)) hE.2.2.1
    · have := hE.2.2.2
      rw [hd] at this
      show rLay W B A (aUp γ _ (γE 1) (σ.2.2.2.2.1.length + 1)) h_q
      rw [aUp_self]
      exact this
  · cases c5
end XAf
/-- all the lines and versions stay there -/
theorem zLgb_up {n n_q v v_q : Nat} {L : List zLg} (hn : n ≤ n_q) (hv : v ≤ v_q) (h : L.all (zLgb n v) = true) : L.all (zLgb n_q v_q) = true := by
  have wx : ∀ x : rX, rWx n x = true → rWx n_q x = true := by
    intro x h1
    rw [rWx_eq] at h1 ⊢
    refine List.all_eq_true.mpr (fun y hy => ?_)
    have := (Nat.blt_eq).mp (List.all_eq_true.mp h1 y hy)
    exact (Nat.blt_eq).mpr (by omega)
  refine List.all_eq_true.mpr (fun q hq => ?_)
  have h1 := List.all_eq_true.mp h q hq
  obtain ⟨w1, h1⟩ := rcn.mp h1
  obtain ⟨w2, h1⟩ := rcn.mp h1
  rw [rAa_eq] at w1
  refine rcn.mpr ⟨?_, rcn.mpr ⟨wx _ w2, ?_⟩⟩
  · rw [rAa_eq]
    exact List.all_eq_true.mpr (fun x hx => wx x (List.all_eq_true.mp w1 x hx))
  · rw [rct] at h1 ⊢
    by_cases hb : Nat.ble (Nat.succ q.2.2.1) v = true
    · rw [if_pos (Nat.ble_eq_true_of_le (Nat.le_trans (Nat.le_of_ble_eq_true hb) hv))]
    · rw [if_neg hb] at h1
      split
      · rfl
      · exact h1
theorem zVe_top {R : aRg} {Γ : List rX} {ρ : Nat → Int} (hR : aOkR R ρ) (hΓ : rFa ρ Γ) {s : List rX} : ∀ {V U : List rV}, rVeL R Γ s V U = true → rE (rVs ρ s) (zTx V) = rE ρ (zTx U)
  | [], [], _ => by simp [zTx, rE_c]
  | [], _ :: _, h => by cases h
  | _ :: _, [], h => by cases h
  | v :: vs, u :: us, h => by
    simp only [rVeL, Bool.and_eq_true] at h
    have h1 := h.1
    simp only [rVe, Bool.and_eq_true] at h1
    have e := Nat.eq_of_beq_eq_true h1.1
    have h2 := h1.2
    unfold zTx
    dsimp only
    rw [← e]
    by_cases hv : v.1 < 3
    · rw [if_pos hv, if_pos hv]
      rw [if_pos (Or.inl hv)] at h2
      simp only [Bool.and_eq_true] at h2
      have := rEq_ok hR hΓ h2.2
      rw [rE_sx] at this
      exact this
    · rw [if_neg hv, if_neg hv, rE_c, rE_c]
theorem zMt0_ok {W : List rGr} {T : List rIT} {B : Nat} {A : rA} {b : aSc} {i0 : List Nat} {ρ : Nat → Int} {γ : Nat → rHp} {σ P σ_q : rS} {ex : List rX} {m pv : Nat} {s : List rX} {lv : List (Nat × Value)} {st : List Value} {h : xH} (hA : rSt W T B A b i0 ρ γ σ lv st h) (h1 : rMt0 W σ P ex m pv = some (s, σ_q)) :
    ∃ ρ_q, (∀ n, n < σ.1.length → ρ_q n = ρ n) ∧ σ.1.length ≤ σ_q.1.length ∧ rSt W T B A b i0 ρ_q γ σ_q lv st h ∧ σ_q.2.2.2.2.1 = σ.2.2.2.2.1 ∧ σ_q.2.2.2.2.2.2 = σ.2.2.2.2.2.2 ∧ σ_q.2.2.2.1 = σ.2.2.2.1 ∧ s.length = P.1.length ∧ rE ρ_q (zTx σ.2.2.2.1) = rE ρ (zTx σ.2.2.2.1) := by
  unfold rMt0 at h1
  split at h1
  · rename_i z hz
    cases h1
    obtain ⟨θ_q, R_q, M_q⟩ := z
    obtain ⟨ρ_q, a1, a2, a3, a4⟩ := rMs_ok hA.1 hz
    obtain ⟨l1, l2⟩ := rLs_loc (fun x hx => a4 x (List.mem_append.mpr (Or.inl hx))) hA.2.1 hA.2.2.1
    refine ⟨ρ_q, a1, a2, ⟨a3, l1, l2, hA.2.2.2⟩, rfl, rfl, rfl, rTv_len, ?_⟩
    have a5 : ∀ v ∈ σ.2.2.2.1, rE ρ_q v.2.2 = rE ρ v.2.2 := fun v hv => a4 _ (List.mem_append.mpr (Or.inl (List.mem_append.mpr (Or.inr (List.mem_map.mpr ⟨v, hv, rfl⟩)))))
    clear hz a4 l1 l2
    unfold zTx
    split
    · rename_i v S0 e0
      rw [e0] at a5
      split
      · exact a5 v List.mem_cons_self
      · rw [rE_c, rE_c]
    · rw [rE_c, rE_c]
  · cases h1
theorem zMat_ok {W : List rGr} {T : List rIT} {B : Nat} {A : rA} {b : aSc} {i0 : List Nat} {ρ : Nat → Int} {γ : Nat → rHp} {m : Nat} {σ P : rS} {lv : List (Nat × Value)} {st : List Value} {h : xH} (hA : rSt W T B A b i0 ρ γ σ lv st h) (hm : m ≤ σ.1.length) (h1 : rMat W T i0 m σ P = true) :
    ∃ (ρ_q : Nat → Int) (γ_q : Nat → rHp), (∀ k, k < m → ρ_q k = ρ k) ∧ γ_q 0 = γ 0 ∧ rSt W T B A b i0 ρ_q γ_q P lv st h ∧ γ_q 1 = γ σ.2.2.2.2.1.length ∧ rE ρ_q (zTx P.2.2.2.1) = rE ρ (zTx σ.2.2.2.1) := by
  unfold rMat at h1
  split at h1
  · rename_i z hz
    obtain ⟨s, σ_q⟩ := z
    simp only [Bool.and_eq_true] at h1
    obtain ⟨ρ_q, a1, a2, a3, a4, a5, a6, a7, a8⟩ := zMt0_ok hA hz
    obtain ⟨c1, c2, c3⟩ := rCk_ok a3 h1.1
    have hc := h1.1
    simp only [rCk, Bool.and_eq_true] at hc
    have c4 := hc.1.1.1.1.2
    have e4 := zVe_top a3.1.1 a3.1.2.1 c4
    rw [a6] at e4
    refine ⟨_, _, fun k hk => (rId_ok h1.2 hk).trans (a1 k (by omega)), ?_, c1, ?_, e4.trans a8⟩
    · simp only [rGv]
      rw [if_neg (by decide)]
    · simp only [rGv]
      rw [if_pos trivial, a4]
  · cases h1
section ZEr
variable {p : Program} {l : Launch} {e : Env} {R0 : Room} {s : State} {m : MethodId} {args : Array Value} {below : List Frame} {meth : Method} {c : Code} {Q : State → Prop} {K9 N9 : Nat}
variable {cc : ByteArray} {nL : Nat} {Ts : List Cond} {own : String} {D : va_G} {dA : Nat → ClassId} {cl : List vw_C} {tA : List (Nat × FieldType)} {tyf : Nat → Nat → FieldType} {B : Nat}
variable {W : List rGr} {T : List rIT} {A : rA} {b : aSc} {i0 : List Nat} {ρ : Nat → Int} {γ : Nat → rHp} {σ : rS} {pc len : Nat} {lv : List (Nat × Value)} {st : List Value} {h : xH} {i : Instr} {l1 : List (Nat × rS)}
variable {kc9 kn9 : Nat} {own9 I : rI} {ρ0 : Nat → Int} {γ0 : Nat → rHp} {xn : List String} {nw : List Cond} {nc : List (String × String)} {ao : List String} {W0 : List Cond} {mth : List aMd} {mx : List Nat} {J : List rI} {hs9 : List (Nat × Nat × Nat × Nat × Nat)} {iv : List aIv}
variable {S : Nat → zSpc} {S9 : zSpc} {Lg : List zLg} {ln : List zNx}
theorem zXo_ok {x : Nat} {X : String} (hA : rSt W T B A b own9.2.2.2.1 ρ γ σ [] [] h) (hs : (∀ k, k < own9.2.2.1.1.length → ρ k = ρ0 k) ∧ γ 0 = γ0 0) (hm : own9.2.2.1.1.length ≤ σ.1.length) (hx : xn[x]? = some X)
    (hr : own9.2.2.2.2.2.any (fun q => Nat.beq q.1 x && rMat W T own9.2.2.2.1 own9.2.2.1.1.length σ q.2) = true) {z0 : Int} (hS : S9 (zAg own9.2.2.1.1.length ρ0) (γ0 0) (x + 1) z0 (γ σ.2.2.2.2.1.length)) (hz0 : z0 = 0 := by rfl) : zXs W T B A b ρ0 γ0 xn S9 own9 X h := by
  obtain ⟨q, hq, he⟩ := List.any_eq_true.mp hr
  simp only [Bool.and_eq_true] at he
  obtain ⟨ρ_q, γ_q, g1, g2, g3, g4, -⟩ := zMat_ok hA hm he.2
  refine ⟨q, hq, by rw [Nat.eq_of_beq_eq_true he.1]; exact hx, ρ_q, γ_q, fun k hk => (g1 k hk).trans (hs.1 k hk), g2.trans hs.2, g3, ?_⟩
  rw [g4, Nat.eq_of_beq_eq_true he.1, ← hz0]
  exact hS
theorem zRt_ok (hA : rSt W T B A b own9.2.2.2.1 ρ γ σ lv st h) (hs : (∀ k, k < own9.2.2.1.1.length → ρ k = ρ0 k) ∧ γ 0 = γ0 0) (hm : own9.2.2.1.1.length ≤ σ.1.length) (hr : rRt W T own9 σ = true) {v : Option Value} (hv : v.toList = st) (hS : S9 (zAg own9.2.2.1.1.length ρ0) (γ0 0) 0 (rE ρ (zTx σ.2.2.2.1)) (γ σ.2.2.2.2.1.length)) : zQs W T B A b ρ0 γ0 S9 own9 v h := by
  unfold rRt at hr
  obtain ⟨E, hE, he⟩ := List.any_eq_true.mp hr
  have hA2 : rSt W T B A b own9.2.2.2.1 ρ γ (rNoL σ σ.2.2.2.1) [] st h := ⟨hA.1, (fun q hq => by cases hq), hA.2.2.1, hA.2.2.2⟩
  obtain ⟨ρ_q, γ_q, g1, g2, g3, g4, g5⟩ := zMat_ok hA2 hm he
  refine ⟨E, hE, ρ_q, γ_q, fun k hk => (g1 k hk).trans (hs.1 k hk), g2.trans hs.2, by rw [hv]; exact g3, ?_⟩
  have g4 : γ_q 1 = γ σ.2.2.2.2.1.length := g4
  have g5 : rE ρ_q (zTx E.2.2.2.1) = rE ρ (zTx σ.2.2.2.1) := g5
  rw [g4, g5]
  exact hS
noncomputable def zThr (W : List rGr) (T : List rIT) (own : rI) (hs : List (Nat × Nat × Nat × Nat × Nat)) (σ : rS) (L : List zLg) (pc x : Nat) : Option (List zNx) :=
  match aHd hs pc x with
  | some hp => some [(0, hp, rWS σ [(8, 0, rC 0)], L, [])]
  | none => if hs.isEmpty = true ∧ own.2.2.2.2.2.any (fun q => Nat.beq q.1 x && rMat W T own.2.2.2.1 own.2.2.1.1.length (rNoL σ []) q.2) = true then some [(1, x + 1, rNoL σ [], L, [])] else none
noncomputable def zBehind (W : List rGr) (T : List rIT) (own : rI) (hs : List (Nat × Nat × Nat × Nat × Nat)) (σ : rS) (L : List zLg) (s : List rX) (I : rI) (n pc : Nat) : Option (List zNx) :=
  if I.2.2.2.2.1.all (rCe1 I) = true ∧ I.2.2.2.2.2.all (fun q => rCe1 I q.2) = true ∧ rWf σ σ.2.2.2.1 = true ∧ s.all (rWx σ.1.length) = true then
    aAll (I.2.2.2.2.1.map (fun E => match rAf I.2.1.2.2.2.2.1 I.2.1.2.2.2.2.2 σ s I E with | some σ2 => some [(0, pc + 3, σ2, L ++ [(.inl n, s, σ.2.2.2.2.1.length, 0, rSx (rSe σ s I E) (zTx E.2.2.2.1))], [])] | none => some []) ++
      I.2.2.2.2.2.map (fun q => match rAf I.2.1.2.1 I.2.1.2.2.1 σ s I q.2 with | some σ2 => zThr W T own hs (rWS σ2 []) (L ++ [(.inl n, s, σ.2.2.2.2.1.length, q.1 + 1, rC 0)]) pc q.1 | none => some []))
  else none
noncomputable def zTry (mx : List Nat) (W : List rGr) (T : List rIT) (own : rI) (hs : List (Nat × Nat × Nat × Nat × Nat)) (J : List rI) (q : aIv) (σ : rS) (L : List zLg) (pc n : Nat) : Option (List zNx) := match J[n]? with
  | some I => (match rMt0 W (σ.1, σ.2.1, [], (σ.2.2.2.1.take q.2.2.1).reverse, σ.2.2.2.2.1, σ.2.2.2.2.2.1, 0, 0) I.2.2.1 (rLs σ.2.2.1 (σ.2.2.2.1.drop q.2.2.1)) 0 0 with
    | some z => if I.1 = q.2.2.2.2.1 ∧ rRoomOk own I (mx.getD I.1 0) σ.2.2.2.2.2.2.1 σ.2.2.2.2.2.2.2 = true ∧ q.2.2.1 ≤ σ.2.2.2.1.length ∧ ((σ.2.2.2.1.drop q.2.2.1).map rcat).sum ≤ 8 ∧
        (q.2.1 = 0 → rRcv W q.2.2.2.1 (σ.2.2.2.1.take q.2.2.1).reverse = true) ∧ (q.2.1 = 5 ∨ q.2.1 = 6 → I.2.2.2.2.2.isEmpty = true ∧ I.2.1.2.2.2.2.1 = I.2.1.2.1 ∧ I.2.1.2.2.2.2.2 = I.2.1.2.2.1) ∧ I.2.2.1.2.2.1.isEmpty = true ∧
        rCk W T own.2.2.2.1 I.2.2.2.1 z.2 I.2.2.1 z.1 0 = true then
      zBehind W T own hs (z.2.1, σ.2.1, σ.2.2.1, σ.2.2.2.1.drop q.2.2.1, σ.2.2.2.2.1, z.2.2.2.2.2.2.1, σ.2.2.2.2.2.2) L z.1 I n pc else none
    | none => none)
  | none => none
noncomputable def zsV (mx : List Nat) (W : List rGr) (T : List rIT) (own : rI) (hs : List (Nat × Nat × Nat × Nat × Nat)) (J : List rI) (iv : List aIv) (σ : rS) (L : List zLg) (i : Instr) (len pc : Nat) : Option (List zNx) := match aXx i with
  | some t => (match iv.find? (fun q => q.1 == t.1) with
    | some q => if len = 3 ∧ ((aXs t.2 q.2.1 = true ∧ (q.2.1 = 0 ∨ q.2.1 = 1 ∨ q.2.1 = 5)) ∨ (t.2 = 1 ∧ q.2.1 = 6)) then aFst (zTry mx W T own hs J q σ L pc) q.2.2.2.2.2 else none
    | none => none)
  | none => none
theorem zsR_ok {rtc : Nat} (C : xCx p s m args c cc nL Ts own D dA cl tA tyf B) (hlocks : meth.locks = false) (hRm : rRmo own9 R0 K9 N9 kc9 kn9) {ret : Option FieldType} (hr : meth.sig.returnType = ret) (hrc : aRc rtc ret) (hA : rSt W T B A b own9.2.2.2.1 ρ γ σ lv st h) (hs : (∀ k, k < own9.2.2.1.1.length → ρ k = ρ0 k) ∧ γ 0 = γ0 0) (hm : own9.2.2.1.1.length ≤ σ.1.length) (hk : σ.2.2.2.2.2.2.1 ≤ own9.2.1.2.2.2.2.1) (hn : σ.2.2.2.2.2.2.2 ≤ own9.2.1.2.2.2.2.2) (hdg : decode cc pc = .ok (i, len)) (h1 : rsR W T own9 rtc σ i len = some l1) (hS9 : S9 (zAg own9.2.2.1.1.length ρ0) (γ0 0) 0 (rE ρ (zTx σ.2.2.2.1)) (γ σ.2.2.2.2.1.length)) : xSafe p l e R0 s m args below meth c nL D dA cl tA B (yEnd below args s D dA cl tA B (zQs W T B A b ρ0 γ0 S9 own9) (zXs W T B A b ρ0 γ0 xn S9 own9) kc9 kn9 R0.cells R0.slots) pc lv st h (σ.2.2.2.2.2.2.1 + K9) (σ.2.2.2.2.2.2.2 + N9) := by
  have one : ∀ {v : rV}, σ.2.2.2.1 = [v] → ∃ x, st = [x] ∧ rMv W A ρ b v x := by
    intro v hS
    have h3 := hA.2.2.1
    rw [hS] at h3
    obtain ⟨x, st_q, rfl, hx, h4⟩ := rStk_cons h3
    cases st_q with
    | nil => exact ⟨x, rfl, hx⟩
    | cons _ _ => exact h4.elim
  unfold rsR at h1
  split at h1
  · split at h1
    · rename_i v hS
      split at h1
      · rename_i hc
        obtain ⟨rfl, c1, c2, c3⟩ := hc
        obtain ⟨x, rfl, hx⟩ := one hS
        obtain ⟨ty, e1, e2⟩ := hrc.2 (by omega)
        have hz0 := rPz_ok hx
        obtain ⟨n1, n2⟩ := aTok_ok (rPr_ok hA.1.1) hz0 e2 c2
        have h0v : (rPz v).1 = 0 := by
          unfold rTk at c2
          rcases c1 with rfl | rfl | rfl
          · simpa [aTok] using c2
          · simp only [aTok, Bool.and_eq_true, decide_eq_true_eq] at c2; exact c2.1
          · simp only [aTok, Bool.and_eq_true, decide_eq_true_eq] at c2; exact c2.1
        obtain ⟨z, rfl, hz⟩ := aM_int hz0 h0v
        exact ys_iret C hlocks (hr.trans e1) n1 (Nat.le_trans (Nat.add_le_add_right hk K9) hRm.2.2.2.2.1) (Nat.le_trans (Nat.add_le_add_right hn N9) hRm.2.2.2.2.2) (zRt_ok hA hs hm c3 rfl hS9) hdg
      · cases h1
    · cases h1
  · split at h1
    · rename_i v hS
      split at h1
      · rename_i hc
        obtain ⟨rfl, c1, c2, c3⟩ := hc
        obtain ⟨x, rfl, hx⟩ := one hS
        obtain ⟨ty, e1, e2⟩ := hrc.2 (by omega)
        obtain ⟨z, rfl, hz⟩ := rMv_lng hx c2
        have : ty = .long := e2.2.1 c1
        subst this
        exact ys_lret C hlocks (hr.trans e1) (Nat.le_trans (Nat.add_le_add_right hk K9) hRm.2.2.2.2.1) (Nat.le_trans (Nat.add_le_add_right hn N9) hRm.2.2.2.2.2) (zRt_ok hA hs hm c3 rfl hS9) hdg
      · cases h1
    · cases h1
  · split at h1
    · rename_i v hS
      split at h1
      · rename_i hc
        obtain ⟨rfl, c1, c2, c3⟩ := hc
        obtain ⟨x, rfl, hx⟩ := one hS
        obtain ⟨ty, e1, e2⟩ := hrc.2 (by omega)
        subst c1
        have hv : x = .null ∨ ∃ a, x = .ref a := by
          have h3 := rsort_ok hx
          unfold rsort at h3
          rw [if_neg (by omega), if_neg (by omega)] at h3
          cases x <;> simp only [xsort] at h3 <;> first | (exact absurd h3 (by decide)) | exact Or.inl rfl | exact Or.inr ⟨_, rfl⟩
        exact ys_aret C hlocks (hr.trans e1) (e2.2.2.2.2 rfl) hv (Nat.le_trans (Nat.add_le_add_right hk K9) hRm.2.2.2.2.1) (Nat.le_trans (Nat.add_le_add_right hn N9) hRm.2.2.2.2.2) (zRt_ok hA hs hm c3 rfl hS9) hdg
      · cases h1
    · cases h1
  · split at h1
    · rename_i hS
      split at h1
      · rename_i hc
        obtain ⟨rfl, c1, c3⟩ := hc
        have h3 := hA.2.2.1
        rw [hS] at h3
        cases st with
        | nil => exact ys_vret C hlocks (hr.trans (hrc.1 c1)) (Nat.le_trans (Nat.add_le_add_right hk K9) hRm.2.2.2.2.1) (Nat.le_trans (Nat.add_le_add_right hn N9) hRm.2.2.2.2.2) (zRt_ok hA hs hm c3 rfl hS9) hdg
        | cons _ _ => exact h3.elim
      · cases h1
    · cases h1
  · cases h1
theorem zsY_ok (C : xCx p s m args c cc nL Ts own D dA cl tA tyf B) (hE : xEnv D dA cl tA B nw nc ao s) (hlocks : meth.locks = false) (hRm : rRmo own9 R0 K9 N9 kc9 kn9) (hnt : ∀ x ∈ c.exceptionTable.toList, False) (hl0 : l.stackTraces = false) {x ik ic : Nat} {X : String} (hX : xn[x]? = some X) (hcls : Bundle.fit X = true) (hw1 : Cond.classLink own ik X ∈ Ts) (hw2 : Cond.initialized X ∈ Ts) (hat : ∀ w ∈ vx_at0 own ic X aChain, w ∈ Ts ∨ w ∈ nw) (hgood : ∀ w ∈ Cond.classLink own ik X :: Cond.initialized X :: vx_at0 own ic X aChain, vx_ot w = true) (d0 : decode cc pc = .ok (.new ik, 3)) (d3 : decode cc (pc + 3) = .ok (.dup, 1)) (d4 : decode cc (pc + 4) = .ok (.invokespecial ic, 3)) (d7 : decode cc (pc + 7) = .ok (.athrow, 1)) (hA : rSt W T B A b own9.2.2.2.1 ρ γ σ lv st h) (hs : (∀ k, k < own9.2.2.1.1.length → ρ k = ρ0 k) ∧ γ 0 = γ0 0) (hm : own9.2.2.1.1.length ≤ σ.1.length) (h1 : rTw W T own9 σ x = true) (hS : S9 (zAg own9.2.2.1.1.length ρ0) (γ0 0) (x + 1) 0 (γ σ.2.2.2.2.1.length)) : xSafe p l e R0 s m args below meth c nL D dA cl tA B (yEnd below args s D dA cl tA B (zQs W T B A b ρ0 γ0 S9 own9) (zXs W T B A b ρ0 γ0 xn S9 own9) kc9 kn9 R0.cells R0.slots) pc lv st h (σ.2.2.2.2.2.2.1 + K9) (σ.2.2.2.2.2.2.2 + N9) := by
  simp only [rTw, Bool.and_eq_true] at h1
  obtain ⟨⟨⟨⟨g1, g2⟩, g3⟩, g4⟩, g5⟩ := h1
  obtain ⟨w1, w2, w3, w4, w5, w6⟩ := hRm
  have g1 : 5 < own9.2.1.1 := (Nat.blt_eq).mp g1
  have g2 := Nat.le_of_ble_eq_true g2
  have g3 : σ.2.2.2.2.2.2.1 + 1 ≤ own9.2.1.2.1 := Nat.le_of_ble_eq_true g3
  have g3 : σ.2.2.2.2.2.2.1 + K9 + 1 ≤ R0.cells := by omega
  have g4 : σ.2.2.2.2.2.2.2 + 6 ≤ own9.2.1.2.2.1 := Nat.le_of_ble_eq_true g4
  have g4 : σ.2.2.2.2.2.2.2 + N9 + 6 ≤ R0.slots := by omega
  have hA2 : rSt W T B A b own9.2.2.2.1 ρ γ (σ.1, σ.2.1, [], [], σ.2.2.2.2.1, σ.2.2.2.2.2.1, σ.2.2.2.2.2.2.1 + 1, σ.2.2.2.2.2.2.2 + 6) [] [] h := ⟨hA.1, (fun q hq => by cases hq), trivial, hA.2.2.2⟩
  refine ys_throw C hE hlocks hnt hl0 (names := aChain) hcls (by decide +kernel) hw1 hw2 hat hgood d0 d3 d4 d7 (by show 2 + 3 < _; omega) ?_ g3 g4 g3 g4 (zXo_ok hA2 hs hm hX g5 hS)
  rw [rSum_ok hA.2.2.1]
  show _ + (13 * (2 + 1) + 42) ≤ R0.locals
  omega
theorem zThr_ok (C : xCx p s m args c cc nL Ts own D dA cl tA tyf B) (hE : xEnv D dA cl tA B nw nc ao s) (hlocks : meth.locks = false) (hRm : rRmo own9 R0 K9 N9 kc9 kn9) (hH : aHg own Ts xn nw nc c hs9) {x : Nat} {X : String} (hX : xn[x]? = some X) (hA : rSt W T B A b own9.2.2.2.1 ρ γ (rWS σ []) lv [] h) (hs : (∀ k, k < own9.2.2.1.1.length → ρ k = ρ0 k) ∧ γ 0 = γ0 0) (hm : own9.2.2.1.1.length ≤ σ.1.length) (hk : σ.2.2.2.2.2.2.1 + K9 ≤ R0.cells) (hn : σ.2.2.2.2.2.2.2 + N9 ≤ R0.slots)
    (hLg : zLgs S ρ γ Lg) (h1 : zThr W T own9 hs9 (rWS σ []) Lg pc x = some ln) (k0 : ∀ q ∈ ln, q.1 = 0 → ∀ (lv_q : List (Nat × Value)) (st_q : List Value) (h_q : xH), rSt W T B A b own9.2.2.2.1 ρ γ q.2.2.1 lv_q st_q h_q → zLgs S ρ γ q.2.2.2.1 → xSafe p l e R0 s m args below meth c nL D dA cl tA B (yEnd below args s D dA cl tA B (zQs W T B A b ρ0 γ0 S9 own9) (zXs W T B A b ρ0 γ0 xn S9 own9) kc9 kn9 R0.cells R0.slots) q.2.1 lv_q st_q h_q (q.2.2.1.2.2.2.2.2.2.1 + K9) (q.2.2.1.2.2.2.2.2.2.2 + N9))
    (k1 : ∀ q ∈ ln, q.1 = 1 → zK W T own9.2.2.2.1 ρ γ q.2.2.1 → zLgs S ρ γ q.2.2.2.1 → S9 (zAg own9.2.2.1.1.length ρ0) (γ0 0) q.2.1 (rE ρ (zTx q.2.2.1.2.2.2.1)) (γ q.2.2.1.2.2.2.2.1.length)) : xThr p l e R0 s m args below meth c nL D dA cl tA B (yEnd below args s D dA cl tA B (zQs W T B A b ρ0 γ0 S9 own9) (zXs W T B A b ρ0 γ0 xn S9 own9) kc9 kn9 R0.cells R0.slots) pc lv st X h (σ.2.2.2.2.2.2.1 + K9) (σ.2.2.2.2.2.2.2 + N9) := by
  unfold zThr at h1
  split at h1
  · rename_i hp hh
    cases h1
    obtain ⟨pre, q, suf, e1, ⟨e2, e3, e4⟩, e5, e6⟩ := aHd_at hh
    have hq : q ∈ hs9 := by rw [e1]; simp
    obtain ⟨g1, nm, g2, g3, g4, g5⟩ := hH.2 q hq
    rw [e4, hX] at g2
    cases g2
    have hcov : ∀ z : Nat × Nat × Nat × Nat × Nat, covers (⟨z.1, z.2.1, z.2.2.1, z.2.2.2.1⟩ : ExceptionTableEntry) pc = (decide (z.1 ≤ pc) && decide (pc < z.2.1)) := fun z => rfl
    refine xt_catch C hE (name := X) (pre.map (fun z => (⟨z.1, z.2.1, z.2.2.1, z.2.2.2.1⟩ : ExceptionTableEntry))) ⟨q.1, q.2.1, q.2.2.1, q.2.2.2.1⟩ (suf.map (fun z => (⟨z.1, z.2.1, z.2.2.1, z.2.2.2.1⟩ : ExceptionTableEntry))) ?_ ?_ ?_ g1 g3 g4 (fun a => ?_)
    · rw [hH.1, e1]
      simp [tableOf]
      rfl
    · intro z hz
      obtain ⟨z_q, hz_q, rfl⟩ := List.mem_map.mp hz
      rw [hcov]
      by_cases hc : z_q.1 ≤ pc ∧ pc < z_q.2.1
      · have hne : z_q.2.2.2.2 ≠ x := fun q => e6 z_q hz_q ⟨hc.1, hc.2, q⟩
        obtain ⟨f1, nm_q, f2, f3, f4, f5⟩ := hH.2 z_q (by rw [e1]; simp [hz_q])
        exact Or.inr ⟨f1, nm_q, f3, f5 x X hX (Ne.symm hne)⟩
      · left
        simp only [Bool.and_eq_false_iff, decide_eq_false_iff_not]
        omega
    · rw [hcov]
      simp [e2, e3]
    · show xSafe p l e R0 s m args below meth c nL D dA cl tA B (yEnd below args s D dA cl tA B (zQs W T B A b ρ0 γ0 S9 own9) (zXs W T B A b ρ0 γ0 xn S9 own9) kc9 kn9 R0.cells R0.slots) q.2.2.1 lv [.ref a] h _ _
      rw [← e5]
      exact k0 _ List.mem_cons_self rfl lv [.ref a] h ⟨hA.1, hA.2.1, ⟨⟨a, rfl⟩, trivial⟩, hA.2.2.2⟩ hLg
  · split at h1
    · rename_i hc
      have hnil : hs9 = [] := by simpa using hc.1
      have hnt : ∀ z ∈ c.exceptionTable.toList, False := fun z hz => by
        rw [hH.1, hnil] at hz
        simp [tableOf] at hz
      have hA2 : rSt W T B A b own9.2.2.2.1 ρ γ (rNoL (rWS σ []) []) [] [] h := ⟨hA.1, (fun q hq => by cases hq), trivial, hA.2.2.2⟩
      cases h1
      have hS := k1 _ List.mem_cons_self rfl hA2.1 hLg
      exact yt_out hlocks hnt hk hn (zXo_ok hA2 hs hm hX hc.2 hS)
    · cases h1
theorem zBehind_ok (C : xCx p s m args c cc nL Ts own D dA cl tA tyf B) (hE : xEnv D dA cl tA B nw nc ao s) (hlocks : meth.locks = false) (hRm : rRmo own9 R0 K9 N9 kc9 kn9) (hH : aHg own Ts xn nw nc c hs9) {s9 : List rX} {γE : Nat → rHp} {ρE : Nat → Int} (hA : rSt W T B A b own9.2.2.2.1 ρ γ σ lv st h) (hl : s9.length = I.2.2.1.1.length) (hρE : ρE = rVs ρ s9) (hγE : γE 0 = γ σ.2.2.2.2.1.length) (hs : (∀ k, k < own9.2.2.1.1.length → ρ k = ρ0 k) ∧ γ 0 = γ0 0) (hm : own9.2.2.1.1.length ≤ σ.1.length)
    (hrm : σ.2.2.2.2.2.2.1 + K9 + (rIr I).cells ≤ R0.cells ∧ σ.2.2.2.2.2.2.2 + N9 + (rIr I).slots ≤ R0.slots) {nn : Nat} (hLg : zLgs S ρ γ Lg) (hLw : Lg.all (zLgb σ.1.length σ.2.2.2.2.1.length) = true) (h1 : zBehind W T own9 hs9 σ Lg s9 I nn pc = some ln) (k0 : ∀ q ∈ ln, q.1 = 0 → ∀ (ρ_q : Nat → Int) (γ_q : Nat → rHp) (lv_q : List (Nat × Value)) (st_q : List Value) (h_q : xH), rSm0 σ ρ ρ_q γ γ_q → rSt W T B A b own9.2.2.2.1 ρ_q γ_q q.2.2.1 lv_q st_q h_q → zLgs S ρ_q γ_q q.2.2.2.1 → xSafe p l e R0 s m args below meth c nL D dA cl tA B (yEnd below args s D dA cl tA B (zQs W T B A b ρ0 γ0 S9 own9) (zXs W T B A b ρ0 γ0 xn S9 own9) kc9 kn9 R0.cells R0.slots) q.2.1 lv_q st_q h_q (q.2.2.1.2.2.2.2.2.2.1 + K9) (q.2.2.1.2.2.2.2.2.2.2 + N9))
    (k1 : ∀ q ∈ ln, q.1 = 1 → ∀ (ρ_q : Nat → Int) (γ_q : Nat → rHp), rSm0 σ ρ ρ_q γ γ_q → zK W T own9.2.2.2.1 ρ_q γ_q q.2.2.1 → zLgs S ρ_q γ_q q.2.2.2.1 → S9 (zAg own9.2.2.1.1.length ρ0) (γ0 0) q.2.1 (rE ρ_q (zTx q.2.2.1.2.2.2.1)) (γ_q q.2.2.1.2.2.2.2.1.length)) :
    (∀ (v : Option Value) (h_q : xH), zQs W T B A b ρE γE (S nn) I v h_q → xSafe p l e R0 s m args below meth c nL D dA cl tA B (yEnd below args s D dA cl tA B (zQs W T B A b ρ0 γ0 S9 own9) (zXs W T B A b ρ0 γ0 xn S9 own9) kc9 kn9 R0.cells R0.slots) (pc + 3) lv (v.toList ++ st) h_q (σ.2.2.2.2.2.2.1 + K9 + I.2.1.2.2.2.2.1) (σ.2.2.2.2.2.2.2 + N9 + I.2.1.2.2.2.2.2)) ∧
    (∀ (X : String) (h_q : xH), zXs W T B A b ρE γE xn (S nn) I X h_q → xThr p l e R0 s m args below meth c nL D dA cl tA B (yEnd below args s D dA cl tA B (zQs W T B A b ρ0 γ0 S9 own9) (zXs W T B A b ρ0 γ0 xn S9 own9) kc9 kn9 R0.cells R0.slots) pc lv st X h_q (σ.2.2.2.2.2.2.1 + K9 + (rIr I).cells) (σ.2.2.2.2.2.2.2 + N9 + (rIr I).slots)) := by
  unfold zBehind at h1
  split at h1
  · rename_i hce
    obtain ⟨k1_q, k2, k3, k4⟩ := hce
    have hall := aAll_in h1
    have cnt : ∀ {dk dn : Nat} {E σ2 : rS}, rAf dk dn σ s9 I E = some σ2 → σ2.2.2.2.2.2.2.1 = σ.2.2.2.2.2.2.1 + dk ∧ σ2.2.2.2.2.2.2.2 = σ.2.2.2.2.2.2.2 + dn ∧ σ.1.length ≤ σ2.1.length := by
      intro dk dn E σ2 a1
      unfold rAf at a1
      split at a1
      · rename_i q d e1 e2
        cases a1
        refine ⟨rfl, rfl, ?_⟩
        have : ∀ (xs : List rX) (R : aRg) (Γ : List rX) (q : aRg × List rX), rAsL R Γ xs = some q → q.1.length = R.length := by
          intro xs
          induction xs with
          | nil => intro R Γ q hq; cases hq; rfl
          | cons x xs ih =>
            intro R Γ q hq
            simp only [rAsL] at hq
            split at hq
            · rename_i z hz
              rw [ih _ _ _ hq]
              rw [rAs_eq] at hz
              unfold rAs0 at hz
              split at hz
              · split at hz <;> cases hz; rfl
              · split at hz
                · split at hz <;> cases hz; simp
                · split at hz
                  · split at hz <;> cases hz; simp
                  · cases hz; rfl
              · split at hz
                · cases hz; rfl
                · split at hz <;> cases hz; rfl
            · cases hq
        rw [this _ _ _ _ e1]
        simp
      · cases a1
    refine ⟨fun v h_q hq => ?_, fun X h_q hq => ?_⟩
    · obtain ⟨E, hE1, ρ_q, γ_q, g1, g2, g3, g4⟩ := hq
      obtain ⟨σ2, a1, ρ2, γ2, a2, a3, a5, a6⟩ := zAf_ok hA k3 k4 hl (List.all_eq_true.mp k1_q E hE1) (fun k hk => by rw [g1 k hk, hρE]) (g2.trans hγE) g3
      obtain ⟨x1, b1, b2⟩ := hall _ (List.mem_append_left _ (List.mem_map.mpr ⟨E, hE1, rfl⟩))
      rw [a1] at b1
      cases b1
      have c3 : rWx E.1.length (zTx E.2.2.2.1) = true := by
        have hc := List.all_eq_true.mp k1_q E hE1
        simp only [rCe1, Bool.and_eq_true] at hc
        have hc3 := hc.1.1.2
        unfold zTx
        split
        · rename_i v0 S0 e0
          rw [e0] at hc3
          simp only [List.all_cons, Bool.and_eq_true] at hc3
          split
          · exact hc3.1
          · rfl
        · rfl
      have := k0 _ (b2 _ List.mem_cons_self) rfl ρ2 γ2 lv _ h_q a2 a3 (zLgs_app (zLgs_same hLw a2.1 a2.2 hLg) (by
        show S nn (s9.map (rE ρ2)) (γ2 σ.2.2.2.2.1.length) 0 (rE ρ2 (rSx (rSe σ s9 I E) (zTx E.2.2.2.1))) (γ2 (σ.2.2.2.2.1.length + 1))
        rw [a5, a6 _ c3, a2.2 _ (Nat.le_refl _), ← hγE, List.map_congr_left (fun x hx => rE_same a2.1 (List.all_eq_true.mp k4 x hx)), ← zAg_vs hl, ← hρE]
        exact g4))
      rw [(cnt a1).1, (cnt a1).2.1, Nat.add_right_comm _ _ K9, Nat.add_right_comm _ _ N9] at this
      exact this
    · obtain ⟨q, hq1, hX, ρ_q, γ_q, g1, g2, g3, g4⟩ := hq
      obtain ⟨σ2, a1, ρ2, γ2, a2, a3, a5, a6⟩ := zAf_ok hA k3 k4 hl (List.all_eq_true.mp k2 q hq1) (fun k hk => by rw [g1 k hk, hρE]) (g2.trans hγE) g3
      obtain ⟨x1, b1, b2⟩ := hall _ (List.mem_append_right _ (List.mem_map.mpr ⟨q, hq1, rfl⟩))
      rw [a1] at b1
      have a4 : rSt W T B A b own9.2.2.2.1 ρ2 γ2 (rWS σ2 []) lv [] h_q := ⟨a3.1, a3.2.1, trivial, a3.2.2.2⟩
      have hs2 : (∀ k, k < own9.2.2.1.1.length → ρ2 k = ρ0 k) ∧ γ2 0 = γ0 0 := ⟨fun k hk => (a2.1 k (by omega)).trans (hs.1 k hk), (a2.2 0 (Nat.zero_le _)).trans hs.2⟩
      have hLg2 := zLgs_app (zLgs_same hLw a2.1 a2.2 hLg) (show zLgP S ρ2 γ2 (.inl nn, s9, σ.2.2.2.2.1.length, q.1 + 1, rC 0) by
        show S nn (s9.map (rE ρ2)) (γ2 σ.2.2.2.2.1.length) (q.1 + 1) (rE ρ2 (rC 0)) (γ2 (σ.2.2.2.2.1.length + 1))
        rw [a5, a2.2 _ (Nat.le_refl _), ← hγE, List.map_congr_left (fun x hx => rE_same a2.1 (List.all_eq_true.mp k4 x hx)), ← zAg_vs hl, ← hρE, rE_c]
        exact g4)
      have := zThr_ok C hE hlocks hRm hH (st := st) (σ := σ2) hX a4 hs2 (by have := (cnt a1).2.2; omega) (by rw [(cnt a1).1, Nat.add_right_comm]; exact hrm.1) (by rw [(cnt a1).2.1, Nat.add_right_comm]; exact hrm.2) hLg2 b1 (fun z hz z0 lv_q st_q h9 hz2 hz3 => k0 z (b2 z hz) z0 ρ2 γ2 lv_q st_q h9 a2 hz2 hz3) (fun z hz z0 hz2 hz3 => k1 z (b2 z hz) z0 ρ2 γ2 a2 hz2 hz3)
      rw [(cnt a1).1, (cnt a1).2.1, Nat.add_right_comm _ _ K9, Nat.add_right_comm _ _ N9] at this
      exact this
  · cases h1
theorem zsV_ok (C : xCx p s m args c cc nL Ts own D dA cl tA tyf B) (hE : xEnv D dA cl tA B nw nc ao s) (hlocks : meth.locks = false) (hRm : rRmo own9 R0 K9 N9 kc9 kn9) (hH : aHg own Ts xn nw nc c hs9) (hJ : ∀ (n : Nat) (I : rI), J[n]? = some I → ∀ d : aMd, mth[I.1]? = some d → zMt D dA cl tA B nw nc ao W0 l W T A b xn d.1 (aCw d) (S n) I) (hIv : ∀ q ∈ iv, aIg own Ts cl nw W0 mth mx q)
    (hA : rSt W T B A b own9.2.2.2.1 ρ γ σ lv st h) (hs : (∀ k, k < own9.2.2.1.1.length → ρ k = ρ0 k) ∧ γ 0 = γ0 0) (hm : own9.2.2.1.1.length ≤ σ.1.length) (hdg : decode cc pc = .ok (i, len)) (hLg : zLgs S ρ γ Lg) (hLw : Lg.all (zLgb σ.1.length σ.2.2.2.2.1.length) = true) (h1 : zsV mx W T own9 hs9 J iv σ Lg i len pc = some ln) (k0 : ∀ q ∈ ln, q.1 = 0 → ∀ (ρ_q : Nat → Int) (γ_q : Nat → rHp) (lv_q : List (Nat × Value)) (st_q : List Value) (h_q : xH), rSm0 σ ρ ρ_q γ γ_q → rSt W T B A b own9.2.2.2.1 ρ_q γ_q q.2.2.1 lv_q st_q h_q → zLgs S ρ_q γ_q q.2.2.2.1 → xSafe p l e R0 s m args below meth c nL D dA cl tA B (yEnd below args s D dA cl tA B (zQs W T B A b ρ0 γ0 S9 own9) (zXs W T B A b ρ0 γ0 xn S9 own9) kc9 kn9 R0.cells R0.slots) q.2.1 lv_q st_q h_q (q.2.2.1.2.2.2.2.2.2.1 + K9) (q.2.2.1.2.2.2.2.2.2.2 + N9))
    (k1 : ∀ q ∈ ln, q.1 = 1 → ∀ (ρ_q : Nat → Int) (γ_q : Nat → rHp), rSm0 σ ρ ρ_q γ γ_q → zK W T own9.2.2.2.1 ρ_q γ_q q.2.2.1 → zLgs S ρ_q γ_q q.2.2.2.1 → S9 (zAg own9.2.2.1.1.length ρ0) (γ0 0) q.2.1 (rE ρ_q (zTx q.2.2.1.2.2.2.1)) (γ_q q.2.2.1.2.2.2.2.1.length)) : xSafe p l e R0 s m args below meth c nL D dA cl tA B (yEnd below args s D dA cl tA B (zQs W T B A b ρ0 γ0 S9 own9) (zXs W T B A b ρ0 γ0 xn S9 own9) kc9 kn9 R0.cells R0.slots) pc lv st h (σ.2.2.2.2.2.2.1 + K9) (σ.2.2.2.2.2.2.2 + N9) := by
  unfold zsV at h1
  split at h1
  · rename_i t ht
    split at h1
    · rename_i q hq
      split at h1
      · rename_i hc0
        obtain ⟨rfl, hso⟩ := hc0
        have hsq : q.2.1 = 0 ∨ q.2.1 = 1 ∨ q.2.1 = 5 ∨ q.2.1 = 6 := by rcases hso with ⟨-, h⟩ | ⟨-, h⟩ <;> omega
        have hsort : q.2.1 ≠ 6 → aXs t.2 q.2.1 = true := fun h => by
          rcases hso with ⟨h9, -⟩ | ⟨-, h8⟩
          · exact h9
          · exact absurd h8 h
        have hqm := List.mem_of_find?_eq_some hq
        have hq1 : q.1 = t.1 := by simpa using List.find?_some hq
        have hg := hIv q hqm
        have hdi : (t.2 = 0 → i = .invokevirtual q.1) ∧ (t.2 = 1 → i = .invokestatic q.1) ∧ (t.2 = 2 → i = .invokespecial q.1) := by
          unfold aXx at ht
          split at ht <;> first | (cases ht; done) | skip
          · cases ht; rw [hq1]; exact ⟨fun _ => rfl, (fun q => by cases q), (fun q => by cases q)⟩
          · cases ht; rw [hq1]; exact ⟨(fun q => by cases q), fun _ => rfl, (fun q => by cases q)⟩
          · cases ht; rw [hq1]; exact ⟨(fun q => by cases q), (fun q => by cases q), fun _ => rfl⟩
        have h4 : ¬ q.2.1 = 4 := by omega
        unfold aIg at hg
        rw [if_neg h4] at hg
        obtain ⟨d, hd, hmx, hgi, hini, hg⟩ := hg
        obtain ⟨nn, hnn, h1⟩ := aFst_at h1
        unfold zTry at h1
        split at h1
        · rename_i I hJI
          split at h1
          · rename_i z hz
            obtain ⟨s9, σ9⟩ := z
            split at h1
            · rename_i hc
              obtain ⟨c1, c2, c3, c4, c5, c6, c7, c8⟩ := hc
              have hM := hJ nn I hJI d (by rw [c1]; exact hd)
              simp only [rRoomOk, Bool.and_eq_true] at c2
              obtain ⟨⟨⟨r1, r2⟩, r3⟩, r4⟩ := c2
              have r1 := Nat.le_of_ble_eq_true r1
              have r2 := Nat.le_of_ble_eq_true r2
              have r3 := Nat.le_of_ble_eq_true r3
              have r4 := Nat.le_of_ble_eq_true r4
              rw [c1, hmx] at r2
              have hrm : xRm R0 (σ.2.2.2.2.2.2.1 + K9) (σ.2.2.2.2.2.2.2 + N9) (rIr I) d.2.2.1 := ⟨Nat.le_trans r1 hRm.1, Nat.le_trans r2 hRm.2.2.2.1, (by have := hRm.2.1; show σ.2.2.2.2.2.2.1 + K9 + I.2.1.2.1 ≤ R0.cells; omega), (by have := hRm.2.2.1; show σ.2.2.2.2.2.2.2 + N9 + I.2.1.2.2.1 ≤ R0.slots; omega)⟩
              obtain ⟨kc1, k2⟩ := rStk_cut q.2.2.1 hA.2.2.1
              have hA0 : rSt W T B A b own9.2.2.2.1 ρ γ (σ.1, σ.2.1, [], (σ.2.2.2.1.take q.2.2.1).reverse, σ.2.2.2.2.1, σ.2.2.2.2.2.1, 0, 0) [] (st.take q.2.2.1).reverse h := ⟨hA.1, (fun z hz => by cases hz), rStk_rev kc1, hA.2.2.2⟩
              obtain ⟨ρ9, a1, a2, a3, a4, a5, a6, a7, a8, a9, a10⟩ := rMt0_ok hA0 hz
              have hin := (rCk_ok a3 c8).1
              have hA1 : rSt W T B A b own9.2.2.2.1 ρ9 γ (σ9.1, σ.2.1, σ.2.2.1, σ.2.2.2.1.drop q.2.2.1, σ.2.2.2.2.1, σ9.2.2.2.2.2.1, σ.2.2.2.2.2.2) lv (st.drop q.2.2.1) h := by
                obtain ⟨l1, l2⟩ := rLs_loc (W := W) (A := A) (b := b) (lv := lv) (st := st.drop q.2.2.1) a10 hA.2.1 k2
                refine ⟨?_, l1, l2, hA.2.2.2⟩
                have := a3.1
                rw [a4, a8] at this
                exact this
              have hlv : ∀ {P : rS} {lv_q : List (Nat × Value)}, P.2.2.1.isEmpty = true → rLoc W A (rVs ρ9 s9) b P.2.2.1 lv_q := fun he q hq => by
                rw [List.isEmpty_iff.mp he] at hq
                cases hq
              have hcon := hM _ _ _ _ hin
              have hγ9 : rGv γ σ9.2.2.2.2.1.length 0 0 = γ σ.2.2.2.2.1.length := by
                rw [a4]
                rfl
              have hs2 : (∀ k, k < own9.2.2.1.1.length → ρ9 k = ρ0 k) ∧ γ 0 = γ0 0 := ⟨fun k hk => (a1 k (by show k < σ.1.length; omega)).trans (hs.1 k hk), hs.2⟩
              have a2_q : σ.1.length ≤ σ9.1.length := a2
              obtain ⟨kr, kx⟩ := zBehind_ok (nn := nn) C hE hlocks hRm hH (σ := (σ9.1, σ.2.1, σ.2.2.1, σ.2.2.2.1.drop q.2.2.1, σ.2.2.2.2.1, σ9.2.2.2.2.2.1, σ.2.2.2.2.2.2)) hA1 a9 rfl hγ9 hs2 (by show _ ≤ σ9.1.length; omega) ⟨hrm.2.2.1, hrm.2.2.2⟩ (zLgs_same hLw a1 (fun _ _ => rfl) hLg) (zLgb_up a2_q (Nat.le_refl _) hLw) h1 (fun z hz z0 ρ_q γ_q lv_q st_q h_q g1 g2 g3 => k0 z hz z0 ρ_q γ_q lv_q st_q h_q ⟨fun k hk => (g1.1 k (by show k < σ9.1.length; omega)).trans (a1 k hk), g1.2⟩ g2 g3) (fun z hz z0 ρ_q γ_q g1 g2 g3 => k1 z hz z0 ρ_q γ_q ⟨fun k hk => (g1.1 k (by show k < σ9.1.length; omega)).trans (a1 k hk), g1.2⟩ g2 g3)
              have hlen : (st.take q.2.2.1).reverse.length = q.2.2.1 := by
                have := rStk_len hA.2.2.1
                simp
                omega
              have hsum : ((st.drop q.2.2.1).map fun v => v.category).sum ≤ 8 := by
                rw [rSum_ok k2]
                exact c4
              have hst : st = (st.take q.2.2.1).reverse.reverse ++ st.drop q.2.2.1 := by simp
              have hrecv : q.2.1 = 0 → ∃ a As N V, (st.take q.2.2.1).reverse = .ref a :: As ∧ h a = some (q.2.2.2.1, N, V) := by
                intro hk0
                have hrc := c5 hk0
                have k0 := hA0.2.2.1
                dsimp only at k0
                unfold rRcv at hrc
                split at hrc
                · rename_i v0 U hUe
                  rw [hUe] at k0
                  obtain ⟨x0, As, e0, k0, -⟩ := rStk_cons k0
                  simp only [Bool.and_eq_true] at hrc
                  obtain ⟨rfl, g_q, f1, f2, f3⟩ := rMv_ref k0 (Nat.eq_of_beq_eq_true hrc.1)
                  obtain ⟨-, V, l2, -⟩ := hA.2.2.2 v0.2.1 g_q f1 _ f2 f3
                  have hrc2 := hrc.2
                  rw [f1] at hrc2
                  rw [Nat.eq_of_beq_eq_true hrc2] at l2
                  exact ⟨_, As, _, V, e0, l2⟩
                · cases hrc
              have hnoX : q.2.1 = 5 ∨ q.2.1 = 6 → ∀ r9 g9, zXs W T B A b r9 g9 xn (S nn) I = fun _ _ => False := by
                intro hk0 r9 g9
                have h7 := (c6 hk0).1
                funext X h8
                apply eq_false
                rintro ⟨z, hz, -⟩
                rw [List.isEmpty_iff.mp h7] at hz
                cases hz
              generalize (st.take q.2.2.1).reverse = av at *
              generalize st.drop q.2.2.1 = st1 at *
              subst hst
              split at hg
              · rename_i hk0
                obtain ⟨g0, g1, g2, g3, ⟨r, g4, g5⟩, g6, g7⟩ := hg
                have hi := hdi.1 (by have h9 := hsort (by omega); rw [hk0] at h9; exact Nat.eq_of_beq_eq_true h9)
                subst hi
                have hcw : aCw d = .code d.1 d.2.1 d.2.2.1 d.2.2.2.1 := by unfold aCw; rw [if_pos g0]
                rw [hcw] at hcon hgi
                obtain ⟨a, As, N, V, rfl, hha⟩ := hrecv hk0
                have hlA : As.length = q.2.2.1 - 1 := by simp at hlen; omega
                have := ys_callV C hE hcon hgi g1 g2 g3 hini g7 hlA g4 g5 hha hrm hsum hdg kr kx
                rw [List.reverse_cons, List.append_assoc]
                exact this
              · rename_i hk0
                obtain ⟨g0, g1, g2, g7⟩ := hg
                have hi := hdi.2.1 (by have h9 := hsort (by omega); rw [hk0] at h9; exact Nat.eq_of_beq_eq_true h9)
                subst hi
                have hcw : aCw d = .code d.1 d.2.1 d.2.2.1 d.2.2.2.1 := by unfold aCw; rw [if_pos g0]
                rw [hcw] at hcon hgi
                exact ys_callS C hE hcon hgi g1 g2 hini g7 hlen hrm hsum hdg kr kx
              · rename_i hk0
                omega
              · rename_i hk0
                omega
              · rename_i hk0
                obtain ⟨g0, g1, g2, g7⟩ := hg
                have hi := hdi.2.1 (by have h9 := hsort (by omega); rw [hk0] at h9; exact Nat.eq_of_beq_eq_true h9)
                subst hi
                have hcw : aCw d = .codeWith d.1 d.2.1 d.2.2.1 d.2.2.2.1 d.2.2.2.2 := by unfold aCw; rw [if_neg g0]
                rw [hcw] at hcon hgi
                rw [hnoX (Or.inl hk0)] at hcon
                have e1 : I.2.1.2.2.2.2.1 = (rIr I).cells := (c6 (Or.inl hk0)).2.1
                have e2 : I.2.1.2.2.2.2.2 = (rIr I).slots := (c6 (Or.inl hk0)).2.2
                rw [e1, e2] at hcon kr
                exact ys_callSW C hE hcon hgi g1 g2 hini g7 hlen hrm hsum hdg kr
              · rename_i hk0
                obtain ⟨g0, ⟨host, g1⟩, g2, g7⟩ := hg
                have hi := hdi.2.1 (by rcases hso with ⟨-, h8⟩ | ⟨h9, -⟩; omega; exact h9)
                subst hi
                have hcw : aCw d = .code d.1 d.2.1 d.2.2.1 d.2.2.2.1 := by unfold aCw; rw [if_pos g0]
                rw [hcw] at hcon hgi
                rw [hnoX (Or.inr hk0)] at hcon
                have e1 : I.2.1.2.2.2.2.1 = (rIr I).cells := (c6 (Or.inr hk0)).2.1
                have e2 : I.2.1.2.2.2.2.2 = (rIr I).slots := (c6 (Or.inr hk0)).2.2
                rw [e1, e2] at hcon kr
                exact ys_callSN C hE hcon hgi g1 g2 hini g7 hlen hrm hsum hdg kr
              · exact hg.elim
            · cases h1
          · cases h1
        · cases h1
      · cases h1
    · cases h1
  · cases h1
end ZEr
