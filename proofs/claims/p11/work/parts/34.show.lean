/-! ===== shown anew at the newest version ===== -/
section XS
variable {W : List rGr} {T : List rIT} {i0 : List Nat} {γ : Nat → rHp} {Γ : List rX} {ch : List rD} {i : Nat}
/-- the newer versions have left the place alone -/
noncomputable def rFr (G : Nat) (j : rX) (d : rD) : Bool := if d.1 = 0 then (!(Nat.beq d.2.1.1 G)) || (d.2.1.2.2.1.1.isEmpty && j.1.isEmpty && !(decide (d.2.1.2.2.1.2 = j.2))) else !(rMd d.2.2.1 G j)
theorem rE_cst {ρ : Nat → Int} {x : rX} (h : x.1.isEmpty = true) : rE ρ x = x.2 := by
  unfold rE
  rw [List.isEmpty_iff.mp h]
  simp [rSm]
theorem rFr_ok {ρ : Nat → Int} {G : Nat} {j : rX} : ∀ {n : Nat} {ch : List rD}, rCh T ρ γ ch → (ch.take n).all (rFr G j) = true → ∀ (k : Int) (ρ2 : Nat → Int), γ ch.length G k (rE ρ2 j) = γ (ch.drop n).length G k (rE ρ2 j)
  | 0, _, _, _, _, _ => rfl
  | _ + 1, [], _, _, _, _ => rfl
  | n + 1, d :: r, h, hw, k, ρ2 => by
    simp only [List.take_succ_cons, List.all_cons, Bool.and_eq_true] at hw
    have ih := rFr_ok (ρ := ρ) (n := n) h.2 hw.2 k ρ2
    simp only [List.drop_succ_cons]
    rw [← ih]
    have h1 := h.1
    unfold rD1 at h1
    have hw1 := hw.1
    unfold rFr at hw1
    simp only [List.length_cons]
    by_cases e : d.1 = 0
    · rw [if_pos e] at h1 hw1
      rw [h1]
      refine rUp_ne ?_
      rintro ⟨e1, -, e3⟩
      simp only [Bool.or_eq_true, Bool.and_eq_true, Bool.not_eq_true', decide_eq_false_iff_not] at hw1
      rcases hw1 with hw1 | hw1
      · rw [e1, Nat.beq_refl] at hw1
        cases hw1
      · rw [rE_cst hw1.1.1, rE_cst hw1.1.2] at e3
        exact hw1.2 e3.symm
    · rw [if_neg e] at h1 hw1
      exact h1.1 G k _ (rMd_ok (by simpa using hw1))
theorem rCe_same {g g_q : rHp} : ∀ {cs : List (Nat × rX × rX)} {n : Nat} {p : Nat → Int}, (∀ q ∈ cs, ∀ (k : Int) (ρ2 : Nat → Int), g_q q.1 k (rE ρ2 q.2.2) = g q.1 k (rE ρ2 q.2.2)) → rCe g_q n cs p = rCe g n cs p
  | [], _, _, _ => rfl
  | q :: r, n, p, h => by
    simp only [rCe]
    rw [h q List.mem_cons_self, rCe_same (fun z hz => h z (List.mem_cons_of_mem _ hz))]
noncomputable def rQk (iv : rIT) (ch : List rD) (n : Nat) : Bool := iv.2.1.all (fun q => (ch.take n).all (rFr q.1 q.2.2))
theorem rQk_ok {ρ : Nat → Int} {iv : rIT} {n : Nat} (hC : rCh T ρ γ ch) (h : rQk iv ch n = true) (hv : rIv (γ (ch.drop n).length) iv) : rIv (γ ch.length) iv := by
  intro p hp h1
  have e : rCe (γ ch.length) iv.1.length iv.2.1 (rPs p) = rCe (γ (ch.drop n).length) iv.1.length iv.2.1 (rPs p) := rCe_same (fun q hq k ρ2 => rFr_ok hC (List.all_eq_true.mp h q hq) k ρ2)
  rw [e]
  exact hv p hp h1
/-- new numbers in these ranges -/
theorem rK_newL : ∀ {qs : List (Int × Int)} {p : List Int} {ρ : Nat → Int} {R : aRg} {M : List rMm}, rK W T i0 ρ γ R Γ ch M → rWk R Γ ch M = true → p.length = qs.length → (∀ (n : Nat) (q : Int × Int), qs[n]? = some q → q.1 ≤ rPs p n ∧ rPs p n ≤ q.2) →
    ∃ ρ_q, (∀ n, n < R.length → ρ_q n = ρ n) ∧ rK W T i0 ρ_q γ (R ++ qs) Γ ch M ∧ ∀ n, n < p.length → ρ_q (R.length + n) = rPs p n
  | [], p, ρ, R, M, h, _, hl, _ => ⟨ρ, fun _ _ => rfl, by simpa using h, fun n hn => by simp at hl; rw [hl] at hn; simp at hn⟩
  | q :: qs, [], ρ, R, M, h, _, hl, _ => by simp at hl
  | q :: qs, z :: p, ρ, R, M, h, hw, hl, hq => by
    have h0 := hq 0 q rfl
    simp only [rPs, List.getD_cons_zero] at h0
    have hk := rK_new h hw h0.1 h0.2
    have hs : ∀ n, n < R.length → aUp ρ R.length z n = ρ n := fun n hn => aUp_ne _ _ (by omega)
    have hw2 : rWk (R ++ [(q.1, q.2)]) Γ ch M = true := by
      have mono : ∀ x : rX, rWx R.length x = true → rWx (R ++ [(q.1, q.2)]).length x = true := fun x hx => by
        rw [rWx_eq] at hx ⊢
        refine List.all_eq_true.mpr (fun y hy => ?_)
        have := (Nat.blt_eq).mp (List.all_eq_true.mp hx y hy)
        refine (Nat.blt_eq).mpr ?_
        simp
        omega
      simp only [rWk, rAa_eq, Bool.and_eq_true] at hw ⊢
      refine ⟨⟨List.all_eq_true.mpr (fun x hx => mono x (List.all_eq_true.mp hw.1.1 x hx)), List.all_eq_true.mpr (fun d hd => ?_)⟩, List.all_eq_true.mpr (fun m hm => ?_)⟩
      · have := List.all_eq_true.mp hw.1.2 d hd
        simp only [rWd, Bool.and_eq_true] at this ⊢
        exact ⟨⟨mono _ this.1.1, mono _ this.1.2⟩, mono _ this.2⟩
      · have := List.all_eq_true.mp hw.2 m hm
        simp only [rWm, Bool.and_eq_true] at this ⊢
        exact ⟨⟨⟨this.1.1.1, mono _ this.1.1.2⟩, mono _ this.1.2⟩, mono _ this.2⟩
    obtain ⟨ρ_q, a1, a2, a3⟩ := rK_newL (qs := qs) (p := p) hk hw2 (by simpa using hl) (fun n y hy => by
      have := hq (n + 1) y (by simpa using hy)
      simpa [rPs] using this)
    refine ⟨ρ_q, fun n hn => (a1 n (by simp; omega)).trans (hs n hn), by simpa using a2, fun n hn => ?_⟩
    cases n with
    | zero =>
      have := a1 R.length (by simp)
      simp only [Nat.add_zero, rPs, List.getD_cons_zero]
      rw [this, aUp_self]
    | succ n =>
      have := a3 n (by simpa using hn)
      simp only [List.length_append, List.length_cons, List.length_nil] at this
      rw [show R.length + (n + 1) = R.length + (0 + 1) + n by omega, this]
      simp [rPs]
noncomputable def rSyL (n m : Nat) : List rX := (List.range m).map (fun k => rSy (n + k))
theorem rVs_syL {ρ : Nat → Int} {n : Nat} {p : List Int} (h : ∀ k, k < p.length → ρ (n + k) = rPs p k) : rVs ρ (rSyL n p.length) = rPs p := by
  funext k
  unfold rVs rSyL
  rw [List.getD_eq_getElem?_getD]
  by_cases hk : k < p.length
  · rw [List.getElem?_map, List.getElem?_range hk]
    simp only [Option.map_some, Option.getD_some]
    rw [rE_sy]
    exact h k hk
  · rw [List.getElem?_eq_none (by simp; omega)]
    unfold rPs
    rw [List.getD_eq_getElem?_getD, List.getElem?_eq_none (by omega)]
    simp [rE, rSm]
/-- those that help, one behind another -/
noncomputable def rUsL (W : List rGr) (ch : List rD) (s : List rX) : List (Nat × rIT × List rX) → aRg → List rX → List rMm → Option (aRg × List rX)
  | [], R, Γ, _ => some (R, Γ)
  | q :: r, R, Γ, M => (match rUs W Γ ch q.1 q.2.1 R M s q.2.2 with | some z => rUsL W ch s r z.1 z.2.1 z.2.2 | none => none)
theorem rUsL_ok {s : List rX} : ∀ {hs : List (Nat × rIT × List rX)} {ρ : Nat → Int} {R : aRg} {Γ : List rX} {M : List rMm}, rK W T i0 ρ γ R Γ ch M → (∀ q ∈ hs, rIv (γ (ch.drop q.1).length) q.2.1) →
    ∃ z, rUsL W ch s hs R Γ M = some z ∧ ∃ ρ_q, aOkR z.1 ρ_q ∧ rFa ρ_q z.2 ∧ ∀ x ∈ s, rE ρ_q x = rE ρ x
  | [], ρ, R, Γ, M, h, _ => ⟨_, rfl, ρ, h.1, h.2.1, fun _ _ => rfl⟩
  | q :: r, ρ, R, Γ, M, h, hh => by
    obtain ⟨y, f1, ρ1, f2, f3, f4, f5⟩ := rUs_ok (i := q.1) (ex := s) (s := q.2.2) h (hh q List.mem_cons_self)
    obtain ⟨z, g1, ρ2, g2, g3, g4⟩ := rUsL_ok (hs := r) f4 (fun z hz => hh z (List.mem_cons_of_mem _ hz))
    exact ⟨z, by simp only [rUsL]; rw [f1]; exact g1, ρ2, g2, g3, fun x hx => (g4 x hx).trans (f5 x hx)⟩
/-- its lines in the state's numbers; where it names none, the places of the first group that were read -/
noncomputable def rHm (s : List rX) (M : List rMm) (q : Nat × rIT × List rX) : List (Nat × rIT × List rX) := match q.2.2, q.2.1.1, q.2.1.2.1 with
  | [], [_], c :: _ => M.filterMap (fun m => if m.2.1 = c.1 then some (q.1, q.2.1, [m.2.2.2.1]) else none)
  | ls, _, _ => [(q.1, q.2.1, ls.map (rSx s))]
theorem rHm_in {s : List rX} {M : List rMm} {q z : Nat × rIT × List rX} (h : z ∈ rHm s M q) : z.1 = q.1 ∧ z.2.1 = q.2.1 := by
  unfold rHm at h
  split at h
  · obtain ⟨m, hm, e⟩ := List.mem_filterMap.mp h
    split at e
    · cases e; exact ⟨rfl, rfl⟩
    · cases e
  · rw [List.mem_singleton] at h
    subst h
    exact ⟨rfl, rfl⟩
noncomputable def rPi (W : List rGr) (ch : List rD) (hs : List (Nat × rIT × List rX)) (iv : rIT) (R : aRg) (Γ : List rX) (M : List rMm) : Bool :=
  rWk R Γ ch M && (match rAsL (R ++ iv.1) Γ ((iv.2.2.1.filter (rWx iv.1.length)).map (rSx (rSyL R.length iv.1.length))) with
    | none => true
    | some z => rPc W ch iv.2.2.1 iv.2.2.2.2.2 (fun R1 Γ1 M1 s => match rUsL W ch s (hs.flatMap (rHm s M1)) R1 Γ1 M1 with | none => true | some y => rBad y.1 y.2 || iv.2.2.2.1.all (fun c => rPv y.1 y.2 2 (rSx s c))) 60 z.1 z.2 M (rSyL R.length iv.1.length) iv.2.1)
theorem rPi_ok {ρ : Nat → Int} {R : aRg} {M : List rMm} {iv : rIT} {hs : List (Nat × rIT × List rX)} (h : rK W T i0 ρ γ R Γ ch M) (hkn : ∀ q ∈ hs, rIv (γ (ch.drop q.1).length) q.2.1) (h1 : rPi W ch hs iv R Γ M = true) : rIv (γ ch.length) iv := by
  simp only [rPi, Bool.and_eq_true] at h1
  obtain ⟨hw, h1⟩ := h1
  intro p hp hr hg
  obtain ⟨ρ_q, a1, a2, a3⟩ := rK_newL h hw hp hr
  have e : rVs ρ_q (rSyL R.length iv.1.length) = rPs p := by
    rw [← hp]
    exact rVs_syL a3
  have el : (rSyL R.length iv.1.length).length = iv.1.length := by simp [rSyL]
  obtain ⟨z, e1, e2, e3, -⟩ := rAsL_ok (xs := (iv.2.2.1.filter (rWx iv.1.length)).map (rSx (rSyL R.length iv.1.length))) a2.1 a2.2.1 (fun x hx => by
    obtain ⟨y, hy, rfl⟩ := List.mem_map.mp hx
    obtain ⟨hy1, hy2⟩ := List.mem_filter.mp hy
    rw [rE_sx, e, ← rE_same (n := iv.1.length) (ρ := rPs p) (ρ_q := rCe (γ ch.length) iv.1.length iv.2.1 (rPs p)) (fun k hk => rCe_lt hk) hy2]
    exact hg y hy1)
  rw [e1] at h1
  dsimp only at h1
  refine rPc_ok (p := rCe (γ ch.length) iv.1.length iv.2.1 (rPs p)) hg ?_ h1 ⟨e2, e3, a2.2.2⟩ (by rw [e, el])
  intro ρ2 R2 Γ2 M2 s hK hs2 hfin
  obtain ⟨y, f1, ρ3, f2, f3, f4⟩ := rUsL_ok (s := s) (hs := hs.flatMap (rHm s M2)) hK (fun z hz => by
    obtain ⟨q, hq, hz⟩ := List.mem_flatMap.mp hz
    obtain ⟨e1, e2⟩ := rHm_in hz
    rw [e1, e2]
    exact hkn q hq)
  rw [f1] at hfin
  simp only [Bool.or_eq_true] at hfin
  rcases hfin with hfin | hfin
  · exact (rBad_ok f2 f3 hfin).elim
  intro c hc
  have := rPv_ok f2 f3 (List.all_eq_true.mp hfin c hc)
  rw [rE_sx, rVs_same f4, hs2] at this
  exact this
/-- what helps: it itself where it was known, and the others that it names -/
noncomputable def rHp0 (T : List rIT) (j0 : List Nat) (ch : List rD) (id : Nat) (iv : rIT) : List (Nat × rIT × List rX) :=
  (match rKn j0 id ch with | some n => [(n, iv, rSyL 0 iv.1.length)] | none => []) ++ iv.2.2.2.2.1.filterMap (fun q => match T[q.1]?, rKn j0 q.1 ch with | some jv, some n => some (n, jv, q.2) | _, _ => none)
theorem rHp0_ok {ρ : Nat → Int} {id : Nat} {iv : rIT} (hiv : T[id]? = some iv) (h0 : rIvs T (γ 0) i0) (hC : rCh T ρ γ ch) : ∀ q ∈ rHp0 T i0 ch id iv, rIv (γ (ch.drop q.1).length) q.2.1 := by
  intro q hq
  rcases List.mem_append.mp hq with hq | hq
  · split at hq
    · rename_i n hn
      rw [List.mem_singleton] at hq
      subst hq
      exact rKn_ok hiv h0 hC hn
    · cases hq
  · obtain ⟨y, hy, e⟩ := List.mem_filterMap.mp hq
    split at e
    · rename_i jv n hj hn
      cases e
      exact rKn_ok hj h0 hC hn
    · cases e
/-- it is true at the newest version -/
noncomputable def rHas (W : List rGr) (T : List rIT) (j0 : List Nat) (R : aRg) (Γ : List rX) (ch : List rD) (M : List rMm) (id : Nat) : Bool := match T[id]? with
  | some iv => (match rKn j0 id ch with | some n => rQk iv ch n | none => false) || rPi W ch (rHp0 T j0 ch id iv) iv R Γ M
  | none => true
theorem rHas_ok {ρ : Nat → Int} {R : aRg} {M : List rMm} {is : List Nat} (h : rK W T i0 ρ γ R Γ ch M) (h1 : is.all (rHas W T i0 R Γ ch M) = true) : rIvs T (γ ch.length) is := by
  intro id hid iv hiv
  have h2 := List.all_eq_true.mp h1 id hid
  unfold rHas at h2
  rw [hiv] at h2
  simp only [Bool.or_eq_true] at h2
  rcases h2 with h2 | h2
  · split at h2
    · rename_i n hn
      exact rQk_ok h.2.2.1 h2 (rKn_ok hiv h.2.2.2.2.2 h.2.2.1 hn)
    · cases h2
  · exact rPi_ok h (rHp0_ok hiv h.2.2.2.2.2 h.2.2.1) h2
end XS
