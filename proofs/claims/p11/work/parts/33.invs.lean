/-! ===== what is true at all places: used, and shown anew ===== -/
noncomputable def rSu (s : List rX) (l : List (Nat × Int)) : rX := @List.rec (Nat × Int) (fun _ => rX) ([], 0) (fun q _ ih => rAd (rMu q.2 (rGe ([], 0) s q.1)) ih) l
noncomputable def rSx (s : List rX) (x : rX) : rX := rPl (rSu s x.1) x.2
noncomputable def rVs (ρ : Nat → Int) (s : List rX) : Nat → Int := fun i => rE ρ (s.getD i ([], 0))
theorem rSu_ok {ρ : Nat → Int} {s : List rX} : ∀ {l : List (Nat × Int)}, rE ρ (rSu s l) = rSm (rVs ρ s) l
  | [] => by simp [rSu, rE, rSm]
  | q :: r => by
    have h : rSu s (q :: r) = rAd (rMu q.2 (rGe ([], 0) s q.1)) (rSu s r) := rfl
    rw [h, rE_ad, rE_mu, rSu_ok, rGe_eq]
    rfl
theorem rE_sx {ρ : Nat → Int} {s : List rX} {x : rX} : rE ρ (rSx s x) = rE (rVs ρ s) x := by
  unfold rSx
  rw [rE_pl, rSu_ok]
  unfold rE
  omega
theorem rVs_app {ρ : Nat → Int} {s : List rX} {v : rX} : rVs ρ (s ++ [v]) = aUp (rVs ρ s) s.length (rE ρ v) := by
  funext i
  unfold rVs
  by_cases h : i = s.length
  · subst h
    rw [aUp_self, List.getD_eq_getElem?_getD]
    simp
  · rw [aUp_ne _ _ h, List.getD_eq_getElem?_getD, List.getD_eq_getElem?_getD]
    by_cases hlt : i < s.length
    · rw [List.getElem?_append_left hlt]
    · rw [List.getElem?_eq_none (by simp; omega), List.getElem?_eq_none (by omega)]
theorem rVs_same {ρ ρ_q : Nat → Int} {s : List rX} (h : ∀ x ∈ s, rE ρ_q x = rE ρ x) : rVs ρ_q s = rVs ρ s := by
  funext i
  unfold rVs
  rw [List.getD_eq_getElem?_getD]
  by_cases hlt : i < s.length
  · rw [List.getElem?_eq_getElem hlt]
    exact h _ (List.getElem_mem hlt)
  · rw [List.getElem?_eq_none (by omega)]
    simp [rE, rSm]
/-- the places_q values, one behind another -/
noncomputable def rGs (W : List rGr) (Γ : List rX) (ch : List rD) (i : Nat) : aRg → List rMm → List rX → List rX → List (Nat × rX × rX) → Option (List rX × aRg × List rMm)
  | R, M, _, s, [] => some (s, R, M)
  | R, M, ex, s, q :: r => (match rGt W R Γ ch M (s ++ ex) i q.1 (rSx s q.2.1) (rSx s q.2.2) with
    | some z => rGs W Γ ch i z.2.1 z.2.2 ex (s ++ [z.1]) r
    | none => none)
section XR
variable {W : List rGr} {T : List rIT} {i0 : List Nat} {γ : Nat → rHp} {Γ : List rX} {ch : List rD} {i : Nat}
theorem rGs_ok : ∀ {cs : List (Nat × rX × rX)} {ρ : Nat → Int} {R R_q : aRg} {M M_q : List rMm} {ex s s_q : List rX}, rK W T i0 ρ γ R Γ ch M → rGs W Γ ch i R M ex s cs = some (s_q, R_q, M_q) →
    ∃ ρ_q, (∀ n, n < R.length → ρ_q n = ρ n) ∧ R.length ≤ R_q.length ∧ rK W T i0 ρ_q γ R_q Γ ch M_q ∧ rVs ρ_q s_q = rCe (γ (ch.drop i).length) s.length cs (rVs ρ s) ∧ (∀ x ∈ ex, rE ρ_q x = rE ρ x)
  | [], ρ, R, R_q, M, M_q, ex, s, s_q, h, h1 => by
    cases h1
    exact ⟨ρ, fun _ _ => rfl, Nat.le_refl _, h, rfl, fun _ _ => rfl⟩
  | q :: r, ρ, R, R_q, M, M_q, ex, s, s_q, h, h1 => by
    unfold rGs at h1
    split at h1
    · rename_i z hz
      obtain ⟨v, R1, M1⟩ := z
      obtain ⟨ρ1, a1, a2, a3, a4, a5⟩ := rGt_ok h hz
      obtain ⟨ρ2, b1, b2, b3, b4, b5⟩ := rGs_ok a3 h1
      refine ⟨ρ2, fun n hn => (b1 n (by omega)).trans (a1 n hn), by omega, b3, ?_, fun x hx => (b5 x hx).trans (a5 x (List.mem_append.mpr (Or.inr hx)))⟩
      rw [b4, rVs_app, rVs_same (fun x hx => a5 x (List.mem_append.mpr (Or.inl hx)))]
      simp only [rCe, List.length_append, List.length_cons, List.length_nil]
      rw [← a4, rE_sx, rE_sx]
    · cases h1
/-- the lines of s are in the ranges -/
noncomputable def rRs (R : aRg) (Γ : List rX) (s : List rX) : List (Int × Int) → Bool := @List.rec rX (fun _ => List (Int × Int) → Bool) (fun qs => @List.rec (Int × Int) (fun _ => Bool) true (fun _ _ _ => false) qs)
  (fun x _ ih qs => @List.rec (Int × Int) (fun _ => Bool) false (fun q r _ => rCo (rPv R Γ 2 (rPl x (rIp (Int.negSucc 0) q.1))) (rCo (rPv R Γ 2 (rPl (rMu (-1) x) q.2)) (ih r) false) false) qs) s
theorem rRs_ok {R : aRg} {ρ : Nat → Int} (hR : aOkR R ρ) (hΓ : rFa ρ Γ) : ∀ {s : List rX} {qs : List (Int × Int)}, rRs R Γ s qs = true → s.length = qs.length ∧ ∀ (n : Nat) (q : Int × Int), qs[n]? = some q → q.1 ≤ rVs ρ s n ∧ rVs ρ s n ≤ q.2
  | [], [], _ => ⟨rfl, fun n q hq => by simp at hq⟩
  | x :: xs, q :: qs, h => by
    have h : rCo (rPv R Γ 2 (rPl x (rIp (Int.negSucc 0) q.1))) (rCo (rPv R Γ 2 (rPl (rMu (-1) x) q.2)) (rRs R Γ xs qs) false) false = true := h
    obtain ⟨h1, h⟩ := rcn.mp h
    obtain ⟨h2, h3⟩ := rcn.mp h
    obtain ⟨e1, e2⟩ := rRs_ok hR hΓ h3
    have g1 := rPv_ok hR hΓ h1
    have g2 := rPv_ok hR hΓ h2
    rw [rE_pl] at g1 g2
    rw [rE_mu] at g2
    rw [rIp_eq, show (Int.negSucc 0 : Int) = -1 from rfl] at g1
    refine ⟨by simp [e1], fun n z hz => ?_⟩
    cases n with
    | zero =>
      simp only [List.getElem?_cons_zero, Option.some.injEq] at hz
      subst hz
      simp only [rVs, List.getD_cons_zero]
      omega
    | succ n =>
      simp only [List.getElem?_cons_succ] at hz
      have := e2 n z hz
      simp only [rVs, List.getD_cons_succ] at this ⊢
      exact this
  | [], _ :: _, h => by cases h
  | _ :: _, [], h => by cases h
theorem rPs_of {ρ : Nat → Int} {s : List rX} : rPs (s.map (rE ρ)) = rVs ρ s := by
  funext n
  unfold rPs rVs
  rw [List.getD_eq_getElem?_getD, List.getD_eq_getElem?_getD, List.getElem?_map]
  cases s[n]? <;> simp [rE, rSm]
/-- use it at the lines s: none if that can't be -/
noncomputable def rUs (W : List rGr) (Γ : List rX) (ch : List rD) (i : Nat) (iv : rIT) (R : aRg) (M : List rMm) (ex s : List rX) : Option (aRg × List rX × List rMm) := match rGs W Γ ch i R M ex s iv.2.1 with
  | some z => if rRs R Γ s iv.1 = true ∧ iv.2.2.1.all (fun g => rPv z.2.1 Γ 2 (rSx z.1 g)) = true then (match rAsL z.2.1 Γ (iv.2.2.2.1.map (rSx z.1)) with | some q => some (q.1, q.2, z.2.2) | none => none) else some (z.2.1, Γ, z.2.2)
  | none => some (R, Γ, M)
theorem rUs_ok {iv : rIT} {ρ : Nat → Int} {R : aRg} {M : List rMm} {ex s : List rX} (h : rK W T i0 ρ γ R Γ ch M) (hv : rIv (γ (ch.drop i).length) iv) :
    ∃ q, rUs W Γ ch i iv R M ex s = some q ∧ ∃ ρ_q, (∀ n, n < R.length → ρ_q n = ρ n) ∧ R.length ≤ q.1.length ∧ rK W T i0 ρ_q γ q.1 q.2.1 ch q.2.2 ∧ ∀ x ∈ ex, rE ρ_q x = rE ρ x := by
  unfold rUs
  split
  · rename_i z hz
    obtain ⟨s_q, R1, M1⟩ := z
    obtain ⟨ρ1, a1, a2, a3, a4, a5⟩ := rGs_ok h hz
    dsimp only
    split
    · rename_i hc
      obtain ⟨c1, c2⟩ := hc
      obtain ⟨l1, l2⟩ := rRs_ok h.1 h.2.1 c1
      have hg : rFa (rVs ρ1 s_q) iv.2.2.1 := fun x hx => by
        have := rPv_ok a3.1 a3.2.1 (List.all_eq_true.mp c2 x hx)
        rw [rE_sx] at this
        exact this
      have hp := hv (s.map (rE ρ)) (by simpa using l1) (by rw [rPs_of]; exact l2)
      rw [rPs_of] at hp
      rw [l1] at a4
      rw [← a4] at hp
      have hcl := hp hg
      obtain ⟨q, e1, e2, e3, e4⟩ := rAsL_ok (xs := iv.2.2.2.1.map (rSx s_q)) a3.1 a3.2.1 (fun x hx => by
        obtain ⟨y, hy, rfl⟩ := List.mem_map.mp hx
        rw [rE_sx]
        exact hcl y hy)
      rw [e1]
      refine ⟨_, rfl, ρ1, a1, by rw [e4]; exact a2, ⟨e2, e3, a3.2.2⟩, a5⟩
    · exact ⟨_, rfl, ρ1, a1, a2, a3, a5⟩
  · exact ⟨_, rfl, ρ, fun _ _ => rfl, Nat.le_refl _, h, fun _ _ => rfl⟩
/-- a place of which it is not known whether it was written -/
noncomputable def rUnd (R : aRg) (Γ : List rX) (G : Nat) (k j : rX) (ch : List rD) : Option rD := @List.rec rD (fun _ => Option rD) none
  (fun d _ ih => rCo (Nat.beq d.1 0)
    (rCo (Nat.beq d.2.1.1 G) (rCo (rCo (rXq d.2.1.2.1 k) (rXq d.2.1.2.2.1 j) false) none (rCo (rCo (rNe R Γ 1 (rSb k d.2.1.2.1)) true (rNe R Γ 1 (rSb j d.2.1.2.2.1))) ih
      (rCo (rCo (rZe R Γ 1 (rSb k d.2.1.2.1)) (rZe R Γ 1 (rSb j d.2.1.2.2.1)) false) none (some d)))) ih)
    (rCo (rMd d.2.2.1 G j) none ih)) ch
/-- the cases in which two places lie to each other: what holds there, and which lines are 0 -/
noncomputable def rAlt (dk dj : rX) : List (List rX × List rX) := [([dk, rMu (-1) dk, dj, rMu (-1) dj], [dk, dj]), ([rPl dk (-1)], []), ([rPl (rMu (-1) dk) (-1)], []), ([dk, rMu (-1) dk, rPl dj (-1)], []), ([dk, rMu (-1) dk, rPl (rMu (-1) dj) (-1)], [])]
theorem rAlt_ok {ρ : Nat → Int} (dk dj : rX) : ∃ l ∈ rAlt dk dj, (∀ x ∈ l.1, 0 ≤ rE ρ x) ∧ ∀ z ∈ l.2, rE ρ z = 0 := by
  have m1 : rE ρ (rMu (-1) dk) = - rE ρ dk := by rw [rE_mu]; omega
  have m2 : rE ρ (rMu (-1) dj) = - rE ρ dj := by rw [rE_mu]; omega
  have no : ∀ z ∈ ([] : List rX), rE ρ z = 0 := fun z hz => by cases hz
  rcases Int.lt_trichotomy (rE ρ dk) 0 with hk | hk | hk
  · refine ⟨([rPl (rMu (-1) dk) (-1)], []), by simp [rAlt], fun x hx => ?_, no⟩
    rw [List.mem_singleton] at hx
    subst hx
    rw [rE_pl, m1]
    omega
  · rcases Int.lt_trichotomy (rE ρ dj) 0 with hj | hj | hj
    · refine ⟨([dk, rMu (-1) dk, rPl (rMu (-1) dj) (-1)], []), by simp [rAlt], fun x hx => ?_, no⟩
      simp only [List.mem_cons, List.not_mem_nil, or_false] at hx
      rcases hx with rfl | rfl | rfl
      · omega
      · omega
      · rw [rE_pl, m2]; omega
    · refine ⟨([dk, rMu (-1) dk, dj, rMu (-1) dj], [dk, dj]), by simp [rAlt], fun x hx => ?_, fun z hz => ?_⟩
      · simp only [List.mem_cons, List.not_mem_nil, or_false] at hx
        rcases hx with rfl | rfl | rfl | rfl <;> omega
      · simp only [List.mem_cons, List.not_mem_nil, or_false] at hz
        rcases hz with rfl | rfl <;> omega
    · refine ⟨([dk, rMu (-1) dk, rPl dj (-1)], []), by simp [rAlt], fun x hx => ?_, no⟩
      simp only [List.mem_cons, List.not_mem_nil, or_false] at hx
      rcases hx with rfl | rfl | rfl
      · omega
      · omega
      · rw [rE_pl]; omega
  · refine ⟨([rPl dk (-1)], []), by simp [rAlt], fun x hx => ?_, no⟩
    rw [List.mem_singleton] at hx
    subst hx
    rw [rE_pl]
    omega
noncomputable def rCoe (k : Nat) (l : List (Nat × Int)) : Int := @List.rec (Nat × Int) (fun _ => Int) 0 (fun q _ ih => rCo (Nat.beq q.1 k) q.2 ih) l
/-- the line d is 0: its newest number goes out of the lines s -/
noncomputable def rEl1 (d : rX) (s : List rX) : List rX := match d.1 with
  | [] => s
  | _ :: _ => rCo (Nat.beq (rLt d.1).2.natAbs 1) (s.map (fun x => rCo (Nat.beq (rCoe (rLt d.1).1 x.1).natAbs 0) x (rSb x (rMu (rCoe (rLt d.1).1 x.1 * (rLt d.1).2) d)))) s
noncomputable def rElm (zs s : List rX) : List rX := @List.rec rX (fun _ => List rX → List rX) (fun s => s) (fun d _ ih s => ih (rEl1 d s)) zs s
theorem rVs_map {ρ : Nat → Int} {f : rX → rX} (hf : ∀ x, rE ρ (f x) = rE ρ x) (h0 : f (rC 0) = rC 0 ∨ True) {s : List rX} : rVs ρ (s.map f) = rVs ρ s := by
  funext k
  unfold rVs
  rw [List.getD_eq_getElem?_getD, List.getD_eq_getElem?_getD, List.getElem?_map]
  cases s[k]? with
  | none => rfl
  | some x => exact hf x
theorem rEl1_ok {ρ : Nat → Int} {d : rX} {s : List rX} (hd : rE ρ d = 0) : rVs ρ (rEl1 d s) = rVs ρ s ∧ (rEl1 d s).length = s.length := by
  unfold rEl1
  split
  · exact ⟨rfl, rfl⟩
  · cases hb : Nat.beq (rLt d.1).2.natAbs 1 with
    | false => exact ⟨rfl, rfl⟩
    | true =>
      refine ⟨rVs_map (fun x => ?_) (Or.inr trivial), List.length_map _⟩
      cases hc : Nat.beq (rCoe (rLt d.1).1 x.1).natAbs 0 with
      | true => rfl
      | false =>
        show rE ρ (rSb x (rMu _ d)) = _
        rw [rE_sb, rE_mu, hd]
        simp
theorem rElm_ok {ρ : Nat → Int} : ∀ {zs s : List rX}, (∀ z ∈ zs, rE ρ z = 0) → rVs ρ (rElm zs s) = rVs ρ s ∧ (rElm zs s).length = s.length
  | [], _, _ => ⟨rfl, rfl⟩
  | d :: zs, s, h => by
    show rVs ρ (rElm zs (rEl1 d s)) = _ ∧ (rElm zs (rEl1 d s)).length = _
    obtain ⟨h1, h2⟩ := rEl1_ok (s := s) (h d List.mem_cons_self)
    obtain ⟨h3, h4⟩ := rElm_ok (s := rEl1 d s) (fun z hz => h z (List.mem_cons_of_mem _ hz))
    exact ⟨h3.trans h1, h4.trans h2⟩
/-- a line whose sign is not known, at which the case is cut -/
noncomputable def rCut (R : aRg) (Γ : List rX) (s : List rX) (sp : List (Nat × rX)) : Option rX := match sp.find? (fun q => Nat.beq q.1 s.length && !(rNe R Γ 1 (rSx s q.2)) && !(rZe R Γ 1 (rSx s q.2))) with
  | some q => some (rSx s q.2)
  | none => none
theorem rCe_lt {g : rHp} : ∀ {cs : List (Nat × rX × rX)} {n : Nat} {f : Nat → Int} {k : Nat}, k < n → rCe g n cs f k = f k
  | [], _, _, _, _ => rfl
  | q :: r, n, f, k, hk => by
    simp only [rCe]
    rw [rCe_lt (by omega), aUp_ne _ _ (by omega)]
/-- the guards whose newest number is n -/
noncomputable def rGn (gs : List rX) (n : Nat) : List rX := gs.filter (fun g => rWx (n + 1) g && !(rWx n g))
/-- the places one behind another, in all cases; guards are taken as soon as their numbers are there -/
noncomputable def rPc (W : List rGr) (ch : List rD) (gs : List rX) (sp : List (Nat × rX)) (fin : aRg → List rX → List rMm → List rX → Bool) : Nat → aRg → List rX → List rMm → List rX → List (Nat × rX × rX) → Bool
  | 0, _, _, _, _, _ => false
  | _ + 1, R, Γ, M, s, [] => fin R Γ M s
  | f + 1, R, Γ, M, s, q :: r => (match rCut R Γ s sp with
    | some x => ([[x, rMu (-1) x], [rPl x (-1)], [rPl (rMu (-1) x) (-1)]] : List (List rX)).all (fun fs => match rAsL R Γ fs with | none => true | some z => rPc W ch gs sp fin f z.1 z.2 M s (q :: r))
    | none => match rUnd R Γ q.1 (rSx s q.2.1) (rSx s q.2.2) ch with
    | some d => (rAlt (rSb (rSx s q.2.1) d.2.1.2.1) (rSb (rSx s q.2.2) d.2.1.2.2.1)).all (fun fs => match rAsL R Γ fs.1 with | none => true | some z => rPc W ch gs sp fin f z.1 z.2 M (rElm fs.2 s) (q :: r))
    | none => (match rGt W R Γ ch M s 0 q.1 (rSx s q.2.1) (rSx s q.2.2) with | some z => (match rAsL z.2.1 Γ ((rGn gs s.length).map (rSx (s ++ [z.1]))) with | none => true | some y => rPc W ch gs sp fin f y.1 y.2 z.2.2 (s ++ [z.1]) r) | none => false))
theorem rPc_ok {Z : Prop} {gs : List rX} {sp : List (Nat × rX)} {fin : aRg → List rX → List rMm → List rX → Bool} {p : Nat → Int} (hgs : rFa p gs) (hf : ∀ (ρ_q : Nat → Int) (R_q : aRg) (Γ_q : List rX) (M_q : List rMm) (s_q : List rX), rK W T i0 ρ_q γ R_q Γ_q ch M_q → rVs ρ_q s_q = p → fin R_q Γ_q M_q s_q = true → Z) :
    ∀ {f : Nat} {R : aRg} {Γ : List rX} {M : List rMm} {s : List rX} {cs : List (Nat × rX × rX)} {ρ : Nat → Int}, rPc W ch gs sp fin f R Γ M s cs = true → rK W T i0 ρ γ R Γ ch M → rCe (γ ch.length) s.length cs (rVs ρ s) = p → Z
  | 0, R, Γ, M, s, cs, ρ, h, _, _ => by simp [rPc] at h
  | f + 1, R, Γ, M, s, [], ρ, h, hK, hp => by
    simp only [rPc] at h
    exact hf ρ R Γ M s hK hp h
  | f + 1, R, Γ, M, s, q :: r, ρ, h, hK, hp => by
    simp only [rPc] at h
    split at h
    · rename_i x hxc
      have tri : ∃ l ∈ ([[x, rMu (-1) x], [rPl x (-1)], [rPl (rMu (-1) x) (-1)]] : List (List rX)), ∀ y ∈ l, 0 ≤ rE ρ y := by
        have m1 : rE ρ (rMu (-1) x) = - rE ρ x := by rw [rE_mu]; omega
        rcases Int.lt_trichotomy (rE ρ x) 0 with hk | hk | hk
        · refine ⟨[rPl (rMu (-1) x) (-1)], by simp, fun y hy => ?_⟩
          rw [List.mem_singleton] at hy
          subst hy
          rw [rE_pl, m1]
          omega
        · refine ⟨[x, rMu (-1) x], by simp, fun y hy => ?_⟩
          simp only [List.mem_cons, List.not_mem_nil, or_false] at hy
          rcases hy with rfl | rfl <;> omega
        · refine ⟨[rPl x (-1)], by simp, fun y hy => ?_⟩
          rw [List.mem_singleton] at hy
          subst hy
          rw [rE_pl]
          omega
      obtain ⟨l, hl, hx⟩ := tri
      have h1 := List.all_eq_true.mp h l hl
      obtain ⟨z, e1, e2, e3, -⟩ := rAsL_ok hK.1 hK.2.1 hx
      rw [e1] at h1
      exact rPc_ok hgs hf h1 ⟨e2, e3, hK.2.2⟩ hp
    split at h
    · rename_i d hd
      obtain ⟨l, hl, hx, hz0⟩ := rAlt_ok (ρ := ρ) (rSb (rSx s q.2.1) d.2.1.2.1) (rSb (rSx s q.2.2) d.2.1.2.2.1)
      have h1 := List.all_eq_true.mp h l hl
      obtain ⟨z, e1, e2, e3, -⟩ := rAsL_ok hK.1 hK.2.1 hx
      rw [e1] at h1
      obtain ⟨k1, k2⟩ := rElm_ok (s := s) hz0
      exact rPc_ok hgs hf h1 ⟨e2, e3, hK.2.2⟩ (by rw [k1, k2]; exact hp)
    · split at h
      · rename_i z hz
        obtain ⟨v, R1, M1⟩ := z
        obtain ⟨ρ1, a1, a2, a3, a4, a5⟩ := rGt_ok hK hz
        have hp2 : rCe (γ ch.length) (s ++ [v]).length r (rVs ρ1 (s ++ [v])) = p := by
          rw [← hp, rVs_app, rVs_same a5]
          simp only [rCe, List.length_append, List.length_cons, List.length_nil]
          rw [← a4, rE_sx, rE_sx]
          rfl
        obtain ⟨y, e1, e2, e3, -⟩ := rAsL_ok (xs := (rGn gs s.length).map (rSx (s ++ [v]))) a3.1 a3.2.1 (fun z hz => by
          obtain ⟨w, hw, rfl⟩ := List.mem_map.mp hz
          obtain ⟨hw1, hw2⟩ := List.mem_filter.mp hw
          simp only [Bool.and_eq_true] at hw2
          rw [rE_sx, ← rE_same (n := s.length + 1) (ρ := rVs ρ1 (s ++ [v])) (ρ_q := p) (fun k hk => by rw [← hp2]; exact rCe_lt (by simp; omega)) hw2.1]
          exact hgs w hw1)
        rw [e1] at h
        exact rPc_ok hgs hf h ⟨e2, e3, a3.2.2⟩ hp2
      · cases h
/-- where it is known -/
noncomputable def rKn (j0 : List Nat) (id : Nat) : List rD → Option Nat
  | [] => if j0.any (Nat.beq id) = true then some 0 else none
  | d :: r => if d.1 ≠ 0 ∧ d.2.2.2.any (Nat.beq id) = true then some 0 else (rKn j0 id r).map (fun n => n + 1)
theorem rKn_ok {id : Nat} {iv : rIT} (hT : T[id]? = some iv) {ρ : Nat → Int} (h0 : rIvs T (γ 0) i0) : ∀ {ch : List rD} {n : Nat}, rCh T ρ γ ch → rKn i0 id ch = some n → rIv (γ (ch.drop n).length) iv
  | [], n, _, h => by
    unfold rKn at h
    split at h
    · rename_i hc
      cases h
      obtain ⟨z, hz, e⟩ := List.any_eq_true.mp hc
      have := Nat.eq_of_beq_eq_true e
      subst this
      exact h0 id hz iv hT
    · cases h
  | d :: r, n, hC, h => by
    unfold rKn at h
    split at h
    · rename_i hc
      cases h
      have h1 := hC.1
      unfold rD1 at h1
      rw [if_neg hc.1] at h1
      obtain ⟨z, hz, e⟩ := List.any_eq_true.mp hc.2
      have := Nat.eq_of_beq_eq_true e
      subst this
      exact h1.2 id hz iv hT
    · cases e : rKn i0 id r with
      | none => rw [e] at h; cases h
      | some m =>
        rw [e] at h
        cases h
        show rIv (γ ((d :: r).drop (m + 1)).length) iv
        rw [List.drop_succ_cons]
        exact rKn_ok hT h0 hC.2 e
end XR
